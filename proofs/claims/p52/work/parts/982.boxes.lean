/-! ===== the boxes ===== -/
theorem dif_self {s : Nat} (hs : s < 4294967296) : dif s s = 0 := Nat.eq_of_testBit_eq (fun k => by rw [dif_bit hs, Nat.zero_testBit]; cases s.testBit k <;> rfl)
theorem sz_add {a : Nat → Nat} {t y : Nat} (ht : t < 4294967296) (hy : Sb y t) : ∀ n : Nat, sz a n t = sz a n y + sz a n (dif t y) := by
  intro n
  induction n with
  | zero => rfl
  | succ n ih =>
    unfold sz
    rw [ih, dif_bit ht]
    by_cases q : y.testBit n = true
    · rw [q, hy n q]; simp; omega
    · rw [Bool.not_eq_true] at q
      rw [q]; simp; omega
theorem sz_cnt {t : Nat} : ∀ n : Nat, sz (fun _ => 1) n t ≤ n := by
  intro n
  induction n with
  | zero => exact Nat.le_refl _
  | succ n ih =>
    unfold sz
    split <;> omega
theorem mt_step {S n t : Nat} {a : Nat → Nat} {b : Nat → Int32} (h : MT S n a b (2 ^ n)) (ht : t < 2 ^ n) (t1 : 1 ≤ t) {y : Nat} (y0 : y ≠ 0) (hy : Sb y t) (hs : sz a n y ≤ S) : (b t).toNatClampNeg ≤ (b (dif t y)).toNatClampNeg + 1 := by
  obtain ⟨-, h⟩ := h
  obtain ⟨-, -, h⟩ := h t ht
  obtain ⟨-, -, h, -⟩ := h t1
  exact h y y0 hy (by omega) hs
theorem bx_card {S n : Nat} {a : Nat → Nat} {b : Nat → Int32} (hn : n ≤ 8) (h : MT S n a b (2 ^ n)) (ha : ∀ i, i < n → a i ≤ S) : ∀ m t : Nat, t ≤ m → t < 2 ^ n → (b t).toNatClampNeg ≤ sz (fun _ => 1) n t := by
  have t2 := two_le hn
  intro m
  induction m with
  | zero =>
    intro t h1 h2
    have : t = 0 := by omega
    subst this
    rw [h.1]
    exact Nat.zero_le _
  | succ m ih =>
    intro t h1 h2
    by_cases t0 : t = 0
    · subst t0; rw [h.1]; exact Nat.zero_le _
    · obtain ⟨i, hi⟩ := Nat.exists_testBit_of_ne_zero t0
      have il := bit_lt h2 hi
      have hy := p2_sub hi
      have e1 := mt_step h h2 (by omega) (p2_ne i) hy (by rw [sz_p2 il]; exact ha i il)
      have e2 := dif_lt (show t < 4294967296 by omega) hy (p2_ne i)
      have e3 := ih (dif t (2 ^ i)) (by omega) (by omega)
      have e4 := sz_dif (a := fun _ => 1) (show t < 4294967296 by omega) il hi
      omega
theorem bx_way {S n t : Nat} {a : Nat → Nat} {b : Nat → Int32} (hn : n ≤ 8) (h : MT S n a b (2 ^ n)) (ha : ∀ i, i < n → a i ≤ S) (ht : t < 2 ^ n) (t1 : 1 ≤ t) : ∃ y, y ≠ 0 ∧ Sb y t ∧ sz a n y ≤ S ∧ (b t).toNatClampNeg = (b (dif t y)).toNatClampNeg + 1 := by
  have c := bx_card hn h ha t t (Nat.le_refl _) ht
  have c2 := sz_cnt (t := t) n
  obtain ⟨-, h⟩ := h
  obtain ⟨-, -, h⟩ := h t ht
  obtain ⟨-, -, -, h⟩ := h t1
  rcases h with h | h
  · omega
  · exact h
theorem bxx_sum {S n : Nat} {a : Nat → Nat} {b : Nat → Int32} (hn : n ≤ 8) (h : MT S n a b (2 ^ n)) (ha : ∀ i, i < n → a i ≤ S) : ∀ m t : Nat, t ≤ m → t < 2 ^ n → sz a n t ≤ (b t).toNatClampNeg * S := by
  have t2 := two_le hn
  intro m
  induction m with
  | zero =>
    intro t h1 h2
    have : t = 0 := by omega
    subst this
    rw [sz_0]; exact Nat.zero_le _
  | succ m ih =>
    intro t h1 h2
    by_cases t0 : t = 0
    · subst t0; rw [sz_0]; exact Nat.zero_le _
    · obtain ⟨y, y0, y1, y2, y3⟩ := bx_way hn h ha h2 (by omega)
      have e2 := dif_lt (show t < 4294967296 by omega) y1 y0
      have e3 := ih (dif t y) (by omega) (by omega)
      rw [sz_add (show t < 4294967296 by omega) y1, y3, Nat.add_mul, Nat.one_mul]
      omega
theorem bx_mono {S S' n : Nat} {a : Nat → Nat} {b b' : Nat → Int32} (hn : n ≤ 8) (hS : S ≤ S') (h : MT S n a b (2 ^ n)) (h' : MT S' n a b' (2 ^ n)) (ha : ∀ i, i < n → a i ≤ S) : ∀ m t : Nat, t ≤ m → t < 2 ^ n → (b' t).toNatClampNeg ≤ (b t).toNatClampNeg := by
  have t2 := two_le hn
  intro m
  induction m with
  | zero =>
    intro t h1 h2
    have : t = 0 := by omega
    subst this
    rw [h'.1]; exact Nat.zero_le _
  | succ m ih =>
    intro t h1 h2
    by_cases t0 : t = 0
    · subst t0; rw [h'.1]; exact Nat.zero_le _
    · obtain ⟨y, y0, y1, y2, y3⟩ := bx_way hn h ha h2 (by omega)
      have e2 := dif_lt (show t < 4294967296 by omega) y1 y0
      have e3 := ih (dif t y) (by omega) (by omega)
      have e4 := mt_step h' h2 (by omega) y0 y1 (by omega)
      omega
theorem bx_whole {S n : Nat} {a : Nat → Nat} {b : Nat → Int32} (hn : n ≤ 8) (h : MT S n a b (2 ^ n)) {t : Nat} (h2 : t < 2 ^ n) (t1 : 1 ≤ t) (hs : sz a n t ≤ S) : (b t).toNatClampNeg ≤ 1 := by
  have t2 := two_le hn
  have e := mt_step h h2 t1 (by omega) (fun k hk => hk) hs
  rw [dif_self (by omega), h.1] at e
  exact e
theorem tnI {x : Int32} (h : 0 ≤ x) : x.toInt = (x.toNatClampNeg : Int) := by
  have := i_le.mp h
  rw [show (0 : Int32).toInt = 0 from rfl] at this
  rw [i_tn]; omega
/-- the fewest boxes -/
theorem a_boxes {icnt v1 : Int32} {itm packed w : Nat → Int32} (hI : QI icnt itm w) (v0 : 1 ≤ v1) (v40 : v1 ≤ 40) (hv : ∀ i : Int32, 0 ≤ i → i < icnt → ix itm i ≤ v1) : ∃ b p', f_X7_boxes v1 icnt itm packed = some (.ok (b (2 ^ icnt.toNatClampNeg - 1)), p') ∧ MT v1.toNatClampNeg icnt.toNatClampNeg (fun i => (itm i).toNatClampNeg) b (2 ^ icnt.toNatClampNeg) := by
  obtain ⟨i1, i2, i3, i4⟩ := hI
  obtain ⟨n, hn⟩ : ∃ n : Nat, n = icnt.toNatClampNeg := ⟨_, rfl⟩
  rw [← hn]
  have hi : icnt = Int32.ofNat n := by rw [hn]; exact (of_tn i2).symm
  have n8 : n ≤ 8 := by rw [hn]; exact (tn_le i2 (by decide)).mp i3
  have hw : w 2423 = Int32.ofNat n := by rw [i1, hi]
  have s0 : 0 ≤ v1 := Int32.le_trans (by decide) v0
  have hx : ∀ i : Nat, i < n → 0 ≤ Int32.ofNat i ∧ Int32.ofNat i < icnt ∧ (Int32.ofNat i).toNatClampNeg = i ∧ (2424 + Int32.ofNat i).toNatClampNeg = 2424 + i := fun i hl => by
    have e1 : 2424 + Int32.ofNat i = Int32.ofNat (2424 + i) := by
      apply Int32.toBitVec_inj.mp
      simp [BitVec.ofNat_add]
    exact ⟨(on_k (by omega)).2.2, by rw [hi]; exact (on_lt (by omega) (by omega)).mpr hl, (on_k (by omega)).1, by rw [e1]; exact (on_k (by omega)).1⟩
  have hit : ∀ i : Nat, i < n → w (2424 + i) = itm i ∧ 1 ≤ itm i ∧ itm i ≤ 20 ∧ itm i ≤ v1 := fun i hl => by
    obtain ⟨x1, x2, x3, x4⟩ := hx i hl
    have y := i4 _ x1 x2
    have z := hv _ x1 x2
    unfold ix at y z
    rw [x3, x4] at y
    rw [x3] at z
    exact ⟨y.1, y.2.1, y.2.2, z⟩
  obtain ⟨e, q1, q2⟩ := lp_one (f := fun z : Int32 => f_X7_boxes_L9 v1 icnt itm packed z) (fun z => 0 ≤ z ∧ z ≤ icnt) (fun e => e = .inl ()) (fun z => msr z icnt) (by
    rintro k ⟨g1, g2⟩
    unfold f_X7_boxes_L9
    by_cases hj : icnt ≤ k
    · exact Or.inr ⟨_, by rw [if_pos hj], rfl⟩
    · left
      have hk : k < icnt := Int32.not_le.mp hj
      obtain ⟨y1, y2, y3⟩ := i4 k g1 hk
      have y4 := hv k g1 hk
      refine ⟨k + 1, ?_, ⟨by clear i4 hv hx hit; grind, by clear i4 hv hx hit; grind⟩, msr_lt hk⟩
      rw [if_neg hj, gd_8 g1 (Int32.lt_of_lt_of_le hk i3), n_range, if_pos ⟨y2, y4⟩, bnd1_s, mxo]) fu 0 ⟨by decide, i2⟩ (msr_fu (by decide) (Int32.lt_of_le_of_lt i3 (by decide)))
  subst q2
  obtain ⟨c', t1, t2, t3⟩ := wb_out (S := v1) (itm := itm) (c := packed) n8 hi s0 v40 (fun i hl => ⟨(hit i hl).2.1, (hit i hl).2.2.1⟩)
  obtain ⟨b', u1, u2⟩ := mb_out (S := v1) (itm := itm) (w := w) (b := fun _ => 0) 0 n8 hw s0 (fun i hl => ⟨(hit i hl).2.1, (hit i hl).2.2.1⟩) (fun i hl => (hit i hl).1)
  have fin := wm_full n8 s0 v40 (fun i hl => ⟨(hit i hl).2.1, (hit i hl).2.2.2⟩) t2 t3 u2
  refine ⟨b', c', ?_, u2⟩
  unfold f_X7_boxes
  rw [n_range, if_pos ⟨v0, v40⟩, bnd1_s, mxo, q1, bnd1_s]
  simp only [sel]
  rw [t1, bnd2_s, fin]
theorem sz_sum {icnt : Int32} {itm w : Nat → Int32} (hI : QI icnt itm w) : ∀ k : Nat, k ≤ icnt.toNatClampNeg → (isum (ix itm) k).toInt = (sz (fun i => (itm i).toNatClampNeg) k (2 ^ icnt.toNatClampNeg - 1) : Int) ∧ (isum (ix itm) k).toInt ≤ 20 * k := by
  obtain ⟨i1, i2, i3, i4⟩ := hI
  have n8 : icnt.toNatClampNeg ≤ 8 := (tn_le i2 (by decide)).mp i3
  intro k
  induction k with
  | zero => intro _; exact ⟨rfl, by rw [show isum (ix itm) 0 = 0 from rfl]; decide⟩
  | succ k ih =>
    intro hk
    obtain ⟨a, b⟩ := ih (by omega)
    have kk : k < 100000 := by omega
    obtain ⟨x1, x2, x3⟩ := on_k kk
    have xl : Int32.ofNat k < icnt := by
      rw [← of_tn i2]; exact (on_lt kk (by omega)).mpr (by omega)
    obtain ⟨y1, y2, y3⟩ := i4 _ x3 xl
    have y2' := i_le.mp y2
    have y3' := i_le.mp y3
    rw [show (1 : Int32).toInt = 1 from rfl] at y2'
    rw [show (20 : Int32).toInt = 20 from rfl] at y3'
    have e1 : isum (ix itm) (k + 1) = isum (ix itm) k + ix itm (Int32.ofNat k) := rfl
    have e2 : (isum (ix itm) (k + 1)).toInt = (isum (ix itm) k).toInt + (ix itm (Int32.ofNat k)).toInt := by
      rw [e1]; exact i_add (by omega) (by omega)
    have e3 : (ix itm (Int32.ofNat k)).toInt = ((itm k).toNatClampNeg : Int) := by
      rw [tnI (Int32.le_trans (by decide) y2)]
      unfold ix
      rw [x1]
    constructor
    · have e5 : sz (fun i => (itm i).toNatClampNeg) (k + 1) (2 ^ icnt.toNatClampNeg - 1) = sz (fun i => (itm i).toNatClampNeg) k (2 ^ icnt.toNatClampNeg - 1) + if (2 ^ icnt.toNatClampNeg - 1).testBit k then (itm k).toNatClampNeg else 0 := rfl
      rw [e2, a, e3, e5, Nat.testBit_two_pow_sub_one, decide_eq_true (show k < icnt.toNatClampNeg by omega), if_pos rfl]
      push_cast
      rfl
    · rw [e2]; push_cast; omega
theorem a_bound {icnt v1 : Int32} {itm w : Nat → Int32} (hI : QI icnt itm w) (v0 : 1 ≤ v1) (v40 : v1 ≤ 40) : ∃ r : Int32, f_X7_boxBound v1 icnt itm = some (.ok r) ∧ r.toInt = ((sz (fun i => (itm i).toNatClampNeg) icnt.toNatClampNeg (2 ^ icnt.toNatClampNeg - 1) : Int) + v1.toInt - 1) / v1.toInt := by
  obtain ⟨a, b⟩ := sz_sum hI _ (Nat.le_refl _)
  obtain ⟨i1, i2, i3, i4⟩ := hI
  have n8 : icnt.toNatClampNeg ≤ 8 := (tn_le i2 (by decide)).mp i3
  have v0' := i_le.mp v0
  have v4' := i_le.mp v40
  rw [show (1 : Int32).toInt = 1 from rfl] at v0'
  rw [show (40 : Int32).toInt = 40 from rfl] at v4'
  refine ⟨(isum (ix itm) icnt.toNatClampNeg + v1 - 1) / v1, ?_, ?_⟩
  · unfold f_X7_boxBound
    rw [n_range, if_pos ⟨v0, v40⟩, bnd1_s, mxo, sum_loop (F := ix itm) (N := icnt) i2 (Int32.lt_of_le_of_lt i3 (by decide)) (fun a n n0 n1 => by
      dsimp only
      unfold f_X7_boxBound_L11
      by_cases hn : icnt ≤ n
      · rw [if_pos hn, if_pos hn]
      · rw [if_neg hn, if_neg hn, gd_8 n0 (Int32.lt_of_lt_of_le (Int32.not_le.mp hn) i3)]), bnd1_s, gz_ok (by
      intro z
      rw [z] at v0'
      exact absurd v0' (by decide))]
  · have e1 : (isum (ix itm) icnt.toNatClampNeg + v1).toInt = (isum (ix itm) icnt.toNatClampNeg).toInt + v1.toInt := i_add (by omega) (by omega)
    have e2 : (isum (ix itm) icnt.toNatClampNeg + v1 - 1).toInt = (isum (ix itm) icnt.toNatClampNeg).toInt + v1.toInt - 1 := by
      rw [i_sub (by rw [e1, show (1 : Int32).toInt = 1 from rfl]; omega) (by rw [e1, show (1 : Int32).toInt = 1 from rfl]; omega), e1]; rfl
    rw [i_div (by rw [e2]; omega) v0', e2, a]
/-- what is asked of the boxes -/
theorem bx_facts {M V B : Int} (v0 : 1 ≤ V) (m0 : 0 ≤ M) (h : M ≤ B * V) : (M + V - 1) / V ≤ B ∧ ((M + V - 1) / V ≤ 1 → M ≤ V) := by
  constructor
  · have : (M + V - 1) / V < B + 1 := by
      rw [Int.ediv_lt_iff_lt_mul (by omega), Int.add_mul, Int.one_mul]
      omega
    omega
  · intro q
    have : (M + V - 1) / V < 2 := by omega
    rw [Int.ediv_lt_iff_lt_mul (by omega)] at this
    omega
theorem t_bx1 {tod : Int32} {prods : Int32} {icnt : Int32} {itm : Nat → Int32} {bks : Nat → Int32} {trm : Nat → Int32} {lan : Int32} {pos : Int32} {rom : Int32} {gp : Int32} {plc : Int32} {pkd : Int64} {plot : Nat → Int32} {ppc : Nat → Int32} {pmk : Nat → Int32} {pbd : Nat → Int32} {lcn : Int32} {lpr : Nat → Int32} {lla : Nat → Int32} {lco : Nat → Int32} {lst : Nat → Int32} {lbl : Nat → Int32} {ocn : Int32} {gif : Int32} {ocu : Nat → Int32} {opr : Nat → Int32} {oop : Nat → Int32} {odu : Nat → Int32} {oli : Nat → Int32} {obd : Nat → Int32} {oha : Nat → Int32} {ost : Nat → Int32} {acts : Int32} {ns : Int32} {hk : Nat} {st : Nat → StT} {pt : Nat → Int32} {lo : Nat → Int32} {hi : Nat → Int32} {bo : Nat → Int64} {co : Nat → Int64} {ac : Nat → Int32} {n2 : Int32} {packed : Nat → Int32} {x : Int32} (a1 : 1 ≤ n2) (a2 : n2 ≤ 8) (hc : icnt = 0) (hJ : JV (tod, prods, icnt, itm, bks, trm, lan, pos, rom, gp, plc, pkd, plot, ppc, pmk, pbd, lcn, lpr, lla, lco, lst, lbl, ocn, gif, ocu, opr, oop, odu, oli, obd, oha, ost) acts ns hk st pt lo hi bo co ac) : ∃ e, loop (fun z : Int32 × Int32 × Int32 × Int32 × Nat × (Nat → StT) × Int32 × (Nat → Int32) × Int32 => f_L_isBoxed_L24 n2 tod prods bks trm lan pos rom gp plc pkd plot ppc pmk pbd lcn lpr lla lco lst lbl ocn gif ocu opr oop odu oli obd oha ost packed z.1 z.2.1 z.2.2.1 z.2.2.2.1 z.2.2.2.2.1 z.2.2.2.2.2.1 z.2.2.2.2.2.2.1 z.2.2.2.2.2.2.2.1 z.2.2.2.2.2.2.2.2) 10 (0, 1, acts, ns, hk, st, icnt, itm, x) = some e ∧ (∃ (n1 : Int32) (acts : Int32) (ns : Int32) (hk : Nat) (st : Nat → StT) (icnt : Int32) (itm : Nat → Int32) (x : Int32), e = .inr (n1, acts, ns, hk, st, icnt, itm, x) ∧ icnt = n2 ∧ 0 ≤ n1 ∧ n1 ≤ 20 ∧ (∀ i : Int32, 0 ≤ i → i < icnt → ix itm i ≤ n1) ∧ JV (tod, prods, icnt, itm, bks, trm, lan, pos, rom, gp, plc, pkd, plot, ppc, pmk, pbd, lcn, lpr, lla, lco, lst, lbl, ocn, gif, ocu, opr, oop, odu, oli, obd, oha, ost) acts ns hk st pt lo hi bo co ac) := by
  have n2i := i_le.mp a2
  rw [show (8 : Int32).toInt = 8 from rfl] at n2i
  refine lp_one (f := fun z : Int32 × Int32 × Int32 × Int32 × Nat × (Nat → StT) × Int32 × (Nat → Int32) × Int32 => f_L_isBoxed_L24 n2 tod prods bks trm lan pos rom gp plc pkd plot ppc pmk pbd lcn lpr lla lco lst lbl ocn gif ocu opr oop odu oli obd oha ost packed z.1 z.2.1 z.2.2.1 z.2.2.2.1 z.2.2.2.2.1 z.2.2.2.2.2.1 z.2.2.2.2.2.2.1 z.2.2.2.2.2.2.2.1 z.2.2.2.2.2.2.2.2) (fun z => 1 ≤ z.2.1 ∧ z.2.1 ≤ n2 + 1 ∧ z.2.2.2.2.2.2.1 + 1 = z.2.1 ∧ 0 ≤ z.1 ∧ z.1 ≤ 20 ∧ (∀ i : Int32, 0 ≤ i → i < z.2.2.2.2.2.2.1 → ix z.2.2.2.2.2.2.2.1 i ≤ z.1) ∧ JV (tod, prods, z.2.2.2.2.2.2.1, z.2.2.2.2.2.2.2.1, bks, trm, lan, pos, rom, gp, plc, pkd, plot, ppc, pmk, pbd, lcn, lpr, lla, lco, lst, lbl, ocn, gif, ocu, opr, oop, odu, oli, obd, oha, ost) z.2.2.1 z.2.2.2.1 z.2.2.2.2.1 z.2.2.2.2.2.1 pt lo hi bo co ac) (fun e => ∃ (n1 : Int32) (acts : Int32) (ns : Int32) (hk : Nat) (st : Nat → StT) (icnt : Int32) (itm : Nat → Int32) (x : Int32), e = .inr (n1, acts, ns, hk, st, icnt, itm, x) ∧ icnt = n2 ∧ 0 ≤ n1 ∧ n1 ≤ 20 ∧ (∀ i : Int32, 0 ≤ i → i < icnt → ix itm i ≤ n1) ∧ JV (tod, prods, icnt, itm, bks, trm, lan, pos, rom, gp, plc, pkd, plot, ppc, pmk, pbd, lcn, lpr, lla, lco, lst, lbl, ocn, gif, ocu, opr, oop, odu, oli, obd, oha, ost) acts ns hk st pt lo hi bo co ac) (fun z => msr z.2.1 (n2 + 1)) ?_ 10 (0, 1, acts, ns, hk, st, icnt, itm, x) ⟨by dsimp only; decide, by dsimp only; clear hJ; grind, by dsimp only; rw [hc]; decide, by dsimp only; decide, by dsimp only; decide, fun i i0 i1 => absurd i1 (by dsimp only; rw [hc]; exact Int32.not_lt.mpr i0), hJ⟩ (by
    have e : (n2 + 1).toInt = n2.toInt + 1 := i_inc (by omega)
    unfold msr
    dsimp only
    rw [e, show (1 : Int32).toInt = 1 from rfl]
    omega)
  clear hJ hc
  rintro ⟨n1, n3, acts, ns, hk, st, icnt, itm, x⟩ ⟨g1, g2, g3, g4, g5, g6, hJ⟩
  dsimp only at g1 g2 g3 g4 g5 g6 hJ ⊢
  unfold f_L_isBoxed_L24
  by_cases hn : n2 < n3
  · right
    refine ⟨_, by rw [if_pos hn], _, _, _, _, _, _, _, _, rfl, by clear hJ g6; grind, g4, g5, g6, hJ⟩
  · left
    have hn' : n3 ≤ n2 := Int32.not_lt.mp hn
    have h8 : icnt < 8 := by clear hJ g6; grind
    have h0 : 0 ≤ icnt := by clear hJ g6; grind
    obtain ⟨v, x2, y1, y2, y3⟩ := t_next (n := 20) (x := x) (by decide)
    have b1 : 1 ≤ 1 + v := by clear hJ g6; grind
    have b2 : 1 + v ≤ 20 := by clear hJ g6; grind
    obtain ⟨r, b_acts, b_ns, b_hk, b_st, b_icnt, b_itm, hx, hJ'⟩ := iv_addItem (1 + v) hJ
    obtain ⟨e1, e2, e3⟩ := x_addItem b1 b2 h0 h8 hx
    subst e1 e2 e3
    have hn3 : n3 < n2 + 1 := by clear hJ hJ' g6; grind
    refine ⟨(if n1 < 1 + v then 1 + v else n1, n3 + 1, b_acts, b_ns, b_hk, b_st, icnt + 1, upd itm icnt.toNatClampNeg (1 + v), x2), by rw [if_neg hn, y1, bnd2_s, hx, bnd7_s, mxo, if_pos g3], ⟨by dsimp only; clear hJ hJ' g6; grind, by dsimp only; clear hJ hJ' g6; grind, by dsimp only; rw [g3], by dsimp only; clear hJ hJ' g6; grind, by dsimp only; clear hJ hJ' g6; grind, ?_, hJ'⟩, msr_lt hn3⟩
    intro i i0 i1
    dsimp only at i1 ⊢
    have u : ix (upd itm icnt.toNatClampNeg (1 + v)) i = if i = icnt then 1 + v else ix itm i := upd_at h0 i0
    rw [u]
    by_cases hi : i = icnt
    · rw [if_pos hi]; clear hJ hJ' g6; grind
    · rw [if_neg hi]
      have := g6 i i0 (by clear hJ hJ' g6; grind)
      clear hJ hJ' g6; grind
set_option maxHeartbeats 2000000 in
set_option maxRecDepth 8000 in
theorem t_boxed {tod : Int32} {prods : Int32} {icnt : Int32} {itm : Nat → Int32} {bks : Nat → Int32} {trm : Nat → Int32} {lan : Int32} {pos : Int32} {rom : Int32} {gp : Int32} {plc : Int32} {pkd : Int64} {plot : Nat → Int32} {ppc : Nat → Int32} {pmk : Nat → Int32} {pbd : Nat → Int32} {lcn : Int32} {lpr : Nat → Int32} {lla : Nat → Int32} {lco : Nat → Int32} {lst : Nat → Int32} {lbl : Nat → Int32} {ocn : Int32} {gif : Int32} {ocu : Nat → Int32} {opr : Nat → Int32} {oop : Nat → Int32} {odu : Nat → Int32} {oli : Nat → Int32} {obd : Nat → Int32} {oha : Nat → Int32} {ost : Nat → Int32} {acts : Int32} {ns : Int32} {hk : Nat} {st : Nat → StT} {pt : Nat → Int32} {lo : Nat → Int32} {hi : Nat → Int32} {bo : Nat → Int64} {co : Nat → Int64} {ac : Nat → Int32} {packed : Nat → Int32} {x : Int32} (hJ : JV (tod, prods, icnt, itm, bks, trm, lan, pos, rom, gp, plc, pkd, plot, ppc, pmk, pbd, lcn, lpr, lla, lco, lst, lbl, ocn, gif, ocu, opr, oop, odu, oli, obd, oha, ost) acts ns hk st pt lo hi bo co ac) : Gs (f_L_isBoxed acts ns hk st tod prods icnt itm bks trm lan pos rom gp plc pkd plot ppc pmk pbd lcn lpr lla lco lst lbl ocn gif ocu opr oop odu oli obd oha ost packed x) (fun o => o.1 = 1 ∧ JV (tod, prods, o.2.2.2.2.2.1, o.2.2.2.2.2.2.1, bks, trm, lan, pos, rom, gp, plc, pkd, plot, ppc, pmk, pbd, lcn, lpr, lla, lco, lst, lbl, ocn, gif, ocu, opr, oop, odu, oli, obd, oha, ost) o.2.1 o.2.2.1 o.2.2.2.1 o.2.2.2.2.1 pt lo hi bo co ac) := by
  unfold f_L_isBoxed
  obtain ⟨r, b_acts, b_ns, b_hk, b_st, b_icnt, hx, hJ1⟩ := iv_clearItems hJ
  have e1 := x_clearItems hx
  refine gs_b6 hx ?_
  obtain ⟨v, x2, y1, y2, y3⟩ := t_next (n := 8) (x := x) (by decide)
  refine gs_b2 y1 ?_
  have b1 : 1 ≤ 1 + v := by clear hJ hJ1; grind
  have b2 : 1 + v ≤ 8 := by clear hJ hJ1; grind
  refine gs_l (t_bx1 b1 b2 e1 hJ1) ?_
  rintro e ⟨s_n1, s_acts, s_ns, s_hk, s_st, s_icnt, s_itm, s_x, rfl, g1, g2, g3, g4, hJ2⟩
  refine gs_r ?_
  dsimp only
  obtain ⟨w, near, ⟨-, -, -, -, -, -, -, -, -, -, -, hI, -, -, -⟩, -, -⟩ := hJ2.ex
  clear hx hJ hJ1
  obtain ⟨i1, i2, i3, i4⟩ := id hI
  have m1 : 1 ≤ s_n1 := by
    have a := i4 0 (by decide) (by rw [g1]; clear i4 hJ2 hI g4; grind)
    exact Int32.le_trans a.2.1 (g4 0 (by decide) (by rw [g1]; clear i4 hJ2 hI g4; grind))
  obtain ⟨v2, x3, y4, y5, y6⟩ := t_next (n := 41 - s_n1) (x := s_x) (by clear i4 hJ2 hI g4; grind)
  refine gs_b2 y4 ?_
  have s1 : 1 ≤ s_n1 + v2 := by clear i4 hJ2 hI g4; grind
  have s40 : s_n1 + v2 ≤ 40 := by clear i4 hJ2 hI g4; grind
  have sm : s_n1 ≤ s_n1 + v2 := by clear i4 hJ2 hI g4; grind
  obtain ⟨bb, p1, q1, q2⟩ := a_boxes (packed := packed) hI s1 s40 (fun i i0 i1 => Int32.le_trans (g4 i i0 i1) sm)
  obtain ⟨rr, q3, q4⟩ := a_bound hI s1 s40
  obtain ⟨b4, p2, q5, q6⟩ := a_boxes (packed := p1) (v1 := 40) hI (by decide) (by decide) (fun i i0 i1 => Int32.le_trans (g4 i i0 i1) (Int32.le_trans g3 (by decide)))
  have n8 : s_icnt.toNatClampNeg ≤ 8 := (tn_le i2 (by decide)).mp i3
  have n1' : 1 ≤ s_icnt.toNatClampNeg := (tn_le (a := 1) (by decide) i2).mp (by rw [g1]; exact b1)
  have ha : ∀ i : Nat, i < s_icnt.toNatClampNeg → (s_itm i).toNatClampNeg ≤ (s_n1 + v2).toNatClampNeg := fun i hi => by
    obtain ⟨x1, x2, x3⟩ := on_k (show i < 100000 by omega)
    have xl : Int32.ofNat i < s_icnt := by rw [← of_tn i2]; exact (on_lt (by omega) (by omega)).mpr hi
    have z := g4 _ x3 xl
    have z2 := (i4 _ x3 xl).2.1
    unfold ix at z z2
    rw [x1] at z z2
    exact (tn_le (Int32.le_trans (by decide) z2) (Int32.le_trans (by decide) s1)).mp (Int32.le_trans z sm)
  have tp : 2 ^ s_icnt.toNatClampNeg - 1 < 2 ^ s_icnt.toNatClampNeg := by have := Nat.two_pow_pos s_icnt.toNatClampNeg; omega
  have t1 : 1 ≤ 2 ^ s_icnt.toNatClampNeg - 1 := by
    have : 2 ^ 1 ≤ 2 ^ s_icnt.toNatClampNeg := Nat.pow_le_pow_right (by decide) n1'
    omega
  have k1 := bx_card n8 q2 ha _ _ (Nat.le_refl _) tp
  have k2 := sz_cnt (t := 2 ^ s_icnt.toNatClampNeg - 1) s_icnt.toNatClampNeg
  have k3 := bxx_sum n8 q2 ha _ _ (Nat.le_refl _) tp
  have k4 := bx_mono n8 ((tn_le (Int32.le_trans (by decide) s1) (by decide)).mp s40) q2 q6 ha _ _ (Nat.le_refl _) tp
  have k5 := bx_whole n8 q2 tp t1
  have nn := (q2.2 _ tp).1
  have n4 := (q6.2 _ tp).1
  generalize bb (2 ^ s_icnt.toNatClampNeg - 1) = B at q1 k1 k3 k4 k5 nn
  generalize b4 (2 ^ s_icnt.toNatClampNeg - 1) = C at q5 k4 n4
  generalize sz (fun _ => 1) s_icnt.toNatClampNeg (2 ^ s_icnt.toNatClampNeg - 1) = K at k1 k2
  have sV := tnI (Int32.le_trans (by decide) s1)
  have s1' := i_le.mp s1
  rw [show (1 : Int32).toInt = 1 from rfl] at s1'
  generalize sz (fun i => (s_itm i).toNatClampNeg) s_icnt.toNatClampNeg (2 ^ s_icnt.toNatClampNeg - 1) = M at q4 k3 k5
  have eB := tnI nn
  have eC := tnI n4
  have eN := tnI i2
  have k3' : (M : Int) ≤ B.toInt * (s_n1 + v2).toInt := by
    rw [eB, sV]; exact_mod_cast k3
  obtain ⟨f1, f2⟩ := bx_facts s1' (Int.natCast_nonneg M) k3'
  rw [← q4] at f1 f2
  refine gs_b2 q1 (gs_ok (gs_b1 q3 (gs_ok (gs_e ?_ (gs_e ?_ (gs_b2 q5 (gs_ok (gs_e ?_ ?_))))))))
  · rw [i_lt]; omega
  · rw [← g1, i_lt]; omega
  · rw [i_lt]; omega
  · have fin : B ≤ 1 ↔ rr ≤ 1 := by
      rw [i_le, i_le, show (1 : Int32).toInt = 1 from rfl]
      constructor
      · intro q; omega
      · intro q
        have z := f2 q
        rw [sV] at z
        have := k5 (by omega)
        omega
    by_cases c : B ≤ 1
    · refine gs_t c ?_
      unfold f_L_isBoxed_J138
      refine gs_b1 q3 (gs_ok (gs_t (fin.mp c) ?_))
      unfold f_L_isBoxed_J155
      exact gs_t rfl (gs_i ⟨rfl, hJ2⟩)
    · refine gs_e c ?_
      unfold f_L_isBoxed_J138
      refine gs_b1 q3 (gs_ok (gs_e (fun z => c (fin.mpr z)) ?_))
      unfold f_L_isBoxed_J155
      exact gs_t rfl (gs_i ⟨rfl, hJ2⟩)
