/-! ===== means ===== -/
theorem isum_swap {H : Int32 → Int32 → Int32} {M : Nat} : ∀ k : Nat, isum (fun l => isum (fun p => H l p) M) k = isum (fun p => isum (fun l => H l p) k) M := by
  intro k
  induction k with
  | zero =>
    have : ∀ m : Nat, isum (fun p => isum (fun l => H l p) 0) m = 0 := by
      intro m
      induction m with
      | zero => rfl
      | succ m ih => unfold isum; rw [ih]; rfl
    rw [this]; rfl
  | succ k ih =>
    have : isum (fun p => isum (fun l => H l p) (k + 1)) M = isum (fun p => isum (fun l => H l p) k + H (Int32.ofNat k) p) M := rfl
    rw [this, isum_add, ← ih]; rfl
theorem isum_z : ∀ k : Nat, isum (fun _ => (0 : Int32)) k = 0 := by
  intro k
  induction k with
  | zero => rfl
  | succ k ih => unfold isum; rw [ih]; rfl
theorem isum_single {a x N : Int32} (h0 : 0 ≤ a) (h1 : a < N) : isum (fun l => if a = l then x else 0) N.toNatClampNeg = x := by
  rw [isum_upd (F := fun _ => 0) h0 h1]
  · rw [isum_z, if_pos rfl]; grind
  · intro n n0 n1 n2
    rw [if_neg (fun z => n2 z.symm)]
/-- the pieces of a lot -/
def pof (plc : Int32) (plot ppc : Nat → Int32) (l : Int32) : Int32 := isum (fun p => if 1 ≤ ix ppc p ∧ ix plot p = l then ix ppc p else 0) plc.toNatClampNeg
theorem pof_sum {plc l : Int32} {plot ppc : Nat → Int32} (h0 : 0 ≤ plc) (h1 : plc ≤ 48) : f_X5_piecesOf l plc plot ppc = some (pof plc plot ppc l) := by
  unfold f_X5_piecesOf
  rw [sum_loop (F := fun p => if 1 ≤ ix ppc p ∧ ix plot p = l then ix ppc p else 0) (g := fun z : Int32 × Int32 => f_X5_piecesOf_L4 l plc plot ppc z.1 z.2) h0 (by grind) (fun a n n0 n1 => by
    dsimp only
    unfold f_X5_piecesOf_L4 f_X5_piecesOf_L4_J30
    by_cases hn : plc ≤ n
    · rw [if_pos hn, if_pos hn]
    · rw [if_neg hn, if_neg hn, n_isWith n l plc plot ppc h1 n0 (by grind)]
      simp only [bnd1, Option.bind_some]
      by_cases hz : 1 ≤ ix ppc n ∧ ix plot n = l
      · simp only [if_pos hz, if_neg one_ne]
        rw [gd_48 n0 (by grind)]
      · simp only [if_neg hz, ↓reduceIte, Int32.add_zero])]
  rfl
theorem pof_rng {plc rom lcn l : Int32} {plot ppc pmk w : Nat → Int32} (h0 : 0 ≤ plc) (h1 : plc ≤ 48) (hr : rom ≤ 20) (hr0 : 1 ≤ rom) (hP : QP plc rom lcn plot ppc pmk w) : 0 ≤ (pof plc plot ppc l).toInt ∧ (pof plc plot ppc l).toInt ≤ 960 := by
  have := isum_rng (F := fun p => if 1 ≤ ix ppc p ∧ ix plot p = l then ix ppc p else 0) (N := plc) (b := rom) (by grind) (by grind) (by grind) (fun p p0 p1 => by
    obtain ⟨-, -, -, a, b, -⟩ := hP p p0 p1
    by_cases hz : 1 ≤ ix ppc p ∧ ix plot p = l
    · rw [if_pos hz]; exact ⟨a, b⟩
    · rw [if_neg hz]; exact ⟨by decide, by grind⟩)
  obtain ⟨a, b⟩ := this
  rw [i_le] at h1 hr hr0
  rw [show (48 : Int32).toInt = 48 from rfl] at h1
  rw [show (20 : Int32).toInt = 20 from rfl] at hr
  rw [show (1 : Int32).toInt = 1 from rfl] at hr0
  have e : plc.toNatClampNeg = plc.toInt.toNat := rfl
  have m : rom.toInt * (plc.toNatClampNeg : Int) ≤ 20 * 48 := Int.mul_le_mul hr (by omega) (by omega) (by omega)
  unfold pof
  exact ⟨a, by omega⟩
theorem lots_places {plc rom lcn : Int32} {plot ppc pmk w : Nat → Int32} {g : Int32 → Int32} (hP : QP plc rom lcn plot ppc pmk w) : isum (fun l => g l * pof plc plot ppc l) lcn.toNatClampNeg = isum (fun p => if ix ppc p = 0 then 0 else g (ix plot p) * ix ppc p) plc.toNatClampNeg := by
  have e1 : ∀ l : Int32, g l * pof plc plot ppc l = isum (fun p => g l * if 1 ≤ ix ppc p ∧ ix plot p = l then ix ppc p else 0) plc.toNatClampNeg := fun l => by unfold pof; rw [isum_mul]
  have e2 : isum (fun l => g l * pof plc plot ppc l) lcn.toNatClampNeg = isum (fun l => isum (fun p => g l * if 1 ≤ ix ppc p ∧ ix plot p = l then ix ppc p else 0) plc.toNatClampNeg) lcn.toNatClampNeg := isum_eq (fun l _ _ => e1 l)
  rw [e2, isum_swap]
  refine isum_eq (fun p p0 p1 => ?_)
  obtain ⟨-, -, -, -, -, c⟩ := hP p p0 p1
  rcases c with ⟨c1, c2⟩ | ⟨c1, c2, c3⟩
  · rw [if_pos c1]
    have : isum (fun l => g l * if 1 ≤ ix ppc p ∧ ix plot p = l then ix ppc p else 0) lcn.toNatClampNeg = isum (fun _ => 0) lcn.toNatClampNeg := isum_eq (fun l _ _ => by rw [if_neg (by rw [c1]; exact fun z => absurd z.1 (by decide)), Int32.mul_zero])
    rw [this, isum_z]
  · rw [if_neg (by grind)]
    have : isum (fun l => g l * if 1 ≤ ix ppc p ∧ ix plot p = l then ix ppc p else 0) lcn.toNatClampNeg = isum (fun l => if ix plot p = l then g (ix plot p) * ix ppc p else 0) lcn.toNatClampNeg := isum_eq (fun l _ _ => by
      by_cases h : ix plot p = l
      · rw [if_pos ⟨c1, h⟩, if_pos h, h]
      · rw [if_neg (fun z => h z.2), if_neg h, Int32.mul_zero])
    rw [this, isum_single c2 c3]
theorem t64_inj {a b : Int64} (h : a.toInt = b.toInt) : a = b := Int64.toInt_inj.mp h
theorem i64_add {a b : Int64} (h1 : -9000000000000000000 ≤ a.toInt + b.toInt) (h2 : a.toInt + b.toInt ≤ 9000000000000000000) : (a + b).toInt = a.toInt + b.toInt := by
  rw [Int64.toInt_add]
  exact Int.bmod_eq_of_le (by omega) (by omega)
theorem i64_mul {a b : Int64} (h1 : -9000000000000000000 ≤ a.toInt * b.toInt) (h2 : a.toInt * b.toInt ≤ 9000000000000000000) : (a * b).toInt = a.toInt * b.toInt := by
  rw [Int64.toInt_mul]
  exact Int.bmod_eq_of_le (by omega) (by omega)
theorem i64_of {a : Int32} : a.toInt64.toInt = a.toInt := Int32.toInt_toInt64 a
theorem p_meanLife {tod prods lan pos rom gp plc lcn ocn c : Int32} {plot ppc pmk lpr lla lco lst rest w : Nat → Int32} (hD : QD tod prods lan pos rom gp plc lcn ocn w) (hP : QP plc rom lcn plot ppc pmk w) (hL : QL lcn prods lpr lla lco lst w) : ∃ (b : UInt64) (rest1 : Nat → Int32), f_X7_meanLife tod plc plot ppc lcn lla rest = some (b, rest1) ∧ f_Y8_meanLife c w = some (b, 0) := by
  obtain ⟨d0, d1, d2, d3, d4, d5, d6, d7, d8, d9, d10, d11, d12, d13, d14, d15, d16, d17, d18, d19, d20, d21, d22, d23, d24, d25, d26⟩ := hD
  have hw : w 1 * w 2 = plc := by rw [d3, d6, d15]
  have p0 : 0 ≤ plc := by grind
  obtain ⟨r', c1, c2⟩ := s_count hw d16 d17 d23 hP rest
  have hc : ∀ l : Int32, 0 ≤ l → l < 24 → ix r' l = pof plc plot ppc l := fun l l0 l1 => by
    have a := c2 l l0 l1
    obtain ⟨e, e1, e2⟩ := s_onHand (l := l) hw d16 d17 hP l0
    rw [pof_sum p0 d17] at e1
    rw [e2] at a
    rw [← Option.some.inj a, ← Option.some.inj e1]
  have hlast : ∀ l : Int32, 0 ≤ l → l < lcn → -2556 ≤ (ix lla l - tod).toInt ∧ (ix lla l - tod).toInt ≤ 2556 := fun l l0 l1 => by
    obtain ⟨-, -, -, -, a, b, -⟩ := hL l l0 l1
    rw [i_le] at a b d1 d2
    rw [show (0 : Int32).toInt = 0 from rfl] at a d1
    rw [show (2556 : Int32).toInt = 2556 from rfl] at b d2
    rw [i_sub (by omega) (by omega)]; omega
  have hcr := fun l => pof_rng (l := l) p0 d17 d11 d10 hP
  -- the class's two sums
  obtain ⟨m, w1, w2, w3⟩ := lp_one (f := fun z : Int64 × Int64 × Int32 => f_X7_meanLife_L21 tod plc plot ppc lcn lla r' z.1 z.2.1 z.2.2) (fun s => 0 ≤ s.2.2 ∧ s.2.2 ≤ lcn ∧ s.1 = (isum (fun l => (ix lla l - tod) * pof plc plot ppc l) s.2.2.toNatClampNeg).toInt64 ∧ s.2.1 = (isum (fun l => 1 * pof plc plot ppc l) s.2.2.toNatClampNeg).toInt64 ∧
      -(2453760 * s.2.2.toInt) ≤ (isum (fun l => (ix lla l - tod) * pof plc plot ppc l) s.2.2.toNatClampNeg).toInt ∧ (isum (fun l => (ix lla l - tod) * pof plc plot ppc l) s.2.2.toNatClampNeg).toInt ≤ 2453760 * s.2.2.toInt ∧ 0 ≤ (isum (fun l => 1 * pof plc plot ppc l) s.2.2.toNatClampNeg).toInt ∧ (isum (fun l => 1 * pof plc plot ppc l) s.2.2.toNatClampNeg).toInt ≤ 960 * s.2.2.toInt)
    (fun e => e.1 = (isum (fun l => (ix lla l - tod) * pof plc plot ppc l) lcn.toNatClampNeg).toInt64 ∧ e.2 = (isum (fun l => 1 * pof plc plot ppc l) lcn.toNatClampNeg).toInt64) (fun s => msr s.2.2 lcn) (by
    rintro ⟨x, y, n⟩ ⟨g1, g2, g3, g4, g5, g6, g7, g8⟩
    dsimp only at g1 g2 g3 g4 g5 g6 g7 g8 ⊢
    unfold f_X7_meanLife_L21
    by_cases hn : lcn ≤ n
    · have : n = lcn := by grind
      subst this
      exact Or.inr ⟨(x, y), by rw [if_pos hn], g3, g4⟩
    · left
      have hn' : n < lcn := by grind
      have a1 : lla n.toNatClampNeg = ix lla n := rfl
      have a2 : r' n.toNatClampNeg = pof plc plot ppc n := hc n g1 (by grind)
      obtain ⟨b1, b2⟩ := hlast n g1 hn'
      obtain ⟨b3, b4⟩ := hcr n
      have e1 := i_lt.mp hn'
      have e2 := i_le.mp d23
      have e0 := i_le.mp g1
      rw [show (0 : Int32).toInt = 0 from rfl] at e0
      rw [show (24 : Int32).toInt = 24 from rfl] at e2
      have k1 : (n + 1).toInt = n.toInt + 1 := i_inc (by omega)
      have k2 := tn_inc g1 (by grind)
      have k3 := of_tn g1
      have m1 : (ix lla n - tod).toInt * (pof plc plot ppc n).toInt ≤ 2556 * 960 := by
        have h1 : (ix lla n - tod).toInt * (pof plc plot ppc n).toInt ≤ 2556 * (pof plc plot ppc n).toInt := Int.mul_le_mul_of_nonneg_right b2 b3
        omega
      have m2 : -(2556 * 960) ≤ (ix lla n - tod).toInt * (pof plc plot ppc n).toInt := by
        have h1 : -2556 * (pof plc plot ppc n).toInt ≤ (ix lla n - tod).toInt * (pof plc plot ppc n).toInt := Int.mul_le_mul_of_nonneg_right b1 b3
        omega
      have m3 : ((ix lla n - tod) * pof plc plot ppc n).toInt = (ix lla n - tod).toInt * (pof plc plot ppc n).toInt := i_mul (by omega) (by omega)
      have s1 : isum (fun l => (ix lla l - tod) * pof plc plot ppc l) (n + 1).toNatClampNeg = isum (fun l => (ix lla l - tod) * pof plc plot ppc l) n.toNatClampNeg + (ix lla n - tod) * pof plc plot ppc n := by
        rw [k2]; show _ + (ix lla (Int32.ofNat n.toNatClampNeg) - tod) * pof plc plot ppc (Int32.ofNat n.toNatClampNeg) = _
        rw [k3]
      have s2 : isum (fun l => 1 * pof plc plot ppc l) (n + 1).toNatClampNeg = isum (fun l => 1 * pof plc plot ppc l) n.toNatClampNeg + pof plc plot ppc n := by
        rw [k2]; show _ + 1 * pof plc plot ppc (Int32.ofNat n.toNatClampNeg) = _
        rw [k3, Int32.one_mul]
      generalize isum (fun l => (ix lla l - tod) * pof plc plot ppc l) n.toNatClampNeg = S at *
      generalize isum (fun l => 1 * pof plc plot ppc l) n.toNatClampNeg = T at *
      have t1 : (S + (ix lla n - tod) * pof plc plot ppc n).toInt = S.toInt + (ix lla n - tod).toInt * (pof plc plot ppc n).toInt := by rw [i_add (by omega) (by omega), m3]
      have t2 : (T + pof plc plot ppc n).toInt = T.toInt + (pof plc plot ppc n).toInt := i_add (by omega) (by omega)
      refine ⟨((S + (ix lla n - tod) * pof plc plot ppc n).toInt64, (T + pof plc plot ppc n).toInt64, n + 1), ?_, ⟨by dsimp only; grind, by dsimp only; grind, by dsimp only; rw [s1], by dsimp only; rw [s2], ?_, ?_, ?_, ?_⟩, msr_lt hn'⟩
      · rw [if_neg hn, gd_24 g1 (by grind), gd_24 g1 (by grind), gd_24 g1 (by grind), a1, a2, g3, g4]
        have u1 : S.toInt64 + (ix lla n - tod).toInt64 * (pof plc plot ppc n).toInt64 = (S + (ix lla n - tod) * pof plc plot ppc n).toInt64 := by
          refine t64_inj ?_
          rw [i64_add, i64_mul (by rw [i64_of, i64_of]; omega) (by rw [i64_of, i64_of]; omega), i64_of, i64_of, i64_of, i64_of, t1]
          · rw [i64_mul (by rw [i64_of, i64_of]; omega) (by rw [i64_of, i64_of]; omega), i64_of, i64_of, i64_of]; omega
          · rw [i64_mul (by rw [i64_of, i64_of]; omega) (by rw [i64_of, i64_of]; omega), i64_of, i64_of, i64_of]; omega
        have u2 : T.toInt64 + (pof plc plot ppc n).toInt64 = (T + pof plc plot ppc n).toInt64 := by
          refine t64_inj ?_
          rw [i64_add (by rw [i64_of, i64_of]; omega) (by rw [i64_of, i64_of]; omega), i64_of, i64_of, i64_of, t2]
        rw [u1, u2]
      · dsimp only; rw [s1, t1, k1]; omega
      · dsimp only; rw [s1, t1, k1]; omega
      · dsimp only; rw [s2, t2]; omega
      · dsimp only; rw [s2, t2, k1]; omega) fu (0, 0, 0) ⟨by dsimp only; decide, d22, (show (0 : Int64) = (0 : Int32).toInt64 by decide), (show (0 : Int64) = (0 : Int32).toInt64 by decide), (show -(2453760 * (0 : Int32).toInt) ≤ (0 : Int32).toInt by decide), (show (0 : Int32).toInt ≤ 2453760 * (0 : Int32).toInt by decide), (show 0 ≤ (0 : Int32).toInt by decide), (show (0 : Int32).toInt ≤ 960 * (0 : Int32).toInt by decide)⟩ (msr_fu (by dsimp only; decide) (by grind))
  obtain ⟨m1, m2⟩ := m
  dsimp only at w2 w3
  rw [lots_places hP] at w2 w3
  have hsum : isum (fun p => if ix ppc p = 0 then 0 else 1 * ix ppc p) plc.toNatClampNeg = isum (ix ppc) plc.toNatClampNeg := isum_eq (fun p _ _ => by
    by_cases h : ix ppc p = 0
    · rw [if_pos h, h]
    · rw [if_neg h, Int32.one_mul])
  rw [hsum] at w3
  -- the model's sum
  have hm : loop (fun z : Int32 × Int32 => f_Y8_meanLife_L9 0 w z.1 z.2) fu (0, 0) = some (isum (fun p => if ix ppc p = 0 then 0 else (ix lla (ix plot p) - tod) * ix ppc p) plc.toNatClampNeg) := by
    refine sum_loop p0 (by grind) (fun a n n0 n1 => ?_)
    dsimp only
    unfold f_Y8_meanLife_L9 f_Y8_meanLife_L9_J65
    rw [n_places, hw]
    simp only [bnd1, Option.bind_some]
    by_cases hn : plc ≤ n
    · rw [if_pos hn, if_pos hn]
    · have hn' : n < plc := by grind
      obtain ⟨y1, y2, y3, y4, y5, y6⟩ := hP n n0 hn'
      rw [if_neg hn, if_neg hn, n_isFree n w n0 (by grind), y2]
      simp only [Option.bind_some]
      by_cases hz : ix ppc n = 0
      · simp only [if_pos hz, if_neg one_ne]
      · have hl : 0 ≤ ix plot n ∧ ix plot n < lcn := by
          rcases y6 with z | z
          · exact absurd z.1 hz
          · exact z.2
        obtain ⟨-, -, -, h3, -⟩ := hL _ hl.1 hl.2
        have h1' : w (15 + n).toNatClampNeg = ix plot n := y1
        have h2' : w (63 + n).toNatClampNeg = ix ppc n := y2
        have h3' : w (231 + ix plot n).toNatClampNeg = ix lla (ix plot n) := h3
        simp only [if_neg hz, ↓reduceIte]
        rw [gd_2450 (by grind) (by grind), gd_2450 (by grind) (by grind), h1', gd_2450 (by grind) (by grind), gd_2450 (by decide) (by decide), h2', h3', show w (0 : Int32).toNatClampNeg = tod from d0, Int32.mul_comm]
  obtain ⟨e, e1, e2⟩ := s_all hw d16 d17 hP
  rw [hand_sum p0 d17] at e1
  have e3 := Option.some.inj e1
  rw [← e3] at e2
  unfold f_X7_meanLife f_Y8_meanLife
  rw [c1, hm]
  simp only [bnd1, bnd2, Option.bind_some]
  rw [w1, e2]
  simp only [Option.bind_some]
  by_cases hz : isum (ix ppc) plc.toNatClampNeg = 0
  · -- nothing is there: every place is free
    have hall : ∀ p : Int32, 0 ≤ p → p < plc → ix ppc p = 0 := by
      intro p q0 q1
      by_cases h : ix ppc p = 0
      · exact h
      · exfalso
        obtain ⟨-, -, -, y4, y5, -⟩ := hP p q0 q1
        have a := isum_upd (F := fun n => if n = p then 0 else ix ppc n) (G := ix ppc) q0 q1 (fun n _ _ n2 => by rw [if_neg n2])
        have b := isum_rng (F := fun n => if n = p then 0 else ix ppc n) (N := plc) (b := 20) (by decide) (by grind) (by decide) (fun n n0 n1 => by
          obtain ⟨-, -, -, z4, z5, -⟩ := hP n n0 n1
          by_cases hh : n = p
          · rw [if_pos hh]; exact ⟨by decide, by decide⟩
          · rw [if_neg hh]; exact ⟨z4, by grind⟩)
        rw [if_pos rfl, Int32.sub_zero, hz] at a
        have h48 := i_le.mp d17
        rw [show (48 : Int32).toInt = 48 from rfl] at h48
        have e : plc.toNatClampNeg = plc.toInt.toNat := rfl
        generalize isum (fun n => if n = p then 0 else ix ppc n) plc.toNatClampNeg = Z at *
        rw [show (20 : Int32).toInt = 20 from rfl] at b
        have z1 : 0 ≤ Z := by rw [i_le]; exact b.1
        have z2 : Z ≤ 960 := by rw [i_le]; show _ ≤ (960 : Int); omega
        grind
    have h2 : (isum (fun p => if ix ppc p = 0 then 0 else (ix lla (ix plot p) - tod) * ix ppc p) plc.toNatClampNeg) = 0 := by
      rw [isum_eq (G := fun _ => 0) (fun p p0 p1 => by rw [if_pos (hall p p0 p1)]), isum_z]
    rw [h2, if_pos hz, w3, hz, if_pos (show lg_cmp (0 : Int32).toInt64 0 = 0 from lgc_self _)]
    refine ⟨0, r', rfl, ?_⟩
    unfold f_Y8_meanLife_J88
    have : FP.ddiv (FP.i2d 0) (FP.i2d 1) = 0 := by decide
    rw [this]
  · have hne : ¬ lg_cmp m2 0 = 0 := by
      intro z
      have h0 : m2 = 0 := by
        unfold lg_cmp at z
        grind
      rw [w3] at h0
      have h1 : (isum (ix ppc) plc.toNatClampNeg).toInt64.toInt = 0 := by rw [h0]; rfl
      rw [i64_of] at h1
      exact hz (by rw [i_eq, h1]; rfl)
    rw [if_neg hne, if_neg hz]
    refine ⟨_, r', rfl, ?_⟩
    unfold f_Y8_meanLife_J88
    have e5 : ∀ (a : Int64) (b : Int32), a = b.toInt64 → FP.l2d a = FP.i2d b := fun a b h => by
      unfold FP.l2d FP.i2d FP.Core.l2d FP.Core.i2d
      rw [h, i64_of]
    rw [e5 _ _ w2, e5 _ _ w3]
theorem p_givenShare {tod prods lan pos rom gp plc lcn ocn c : Int32} {ocu opr oop odu oli oha w : Nat → Int32} (hD : QD tod prods lan pos rom gp plc lcn ocn w) (hO : QO ocn prods ocu opr oop odu oli w) (hH : QH ocn lcn oha w) : ∃ b : UInt32, f_X7_givenShare ocn oop oha = some b ∧ f_Y8_givenShare c w = some (b, 0) := by
  obtain ⟨d0, d1, d2, d3, d4, d5, d6, d7, d8, d9, d10, d11, d12, d13, d14, d15, d16, d17, d18, d19, d20, d21, d22, d23, d24, d25, d26⟩ := hD
  obtain ⟨e, q1, q2, -⟩ := lp_same (f := fun z : Int32 × Int32 × Int32 => f_X7_givenShare_L6 ocn oop oha z.1 z.2.1 z.2.2) (g := fun z : Int32 × Int32 × Int32 => f_Y8_givenShare_L11 0 w z.1 z.2.1 z.2.2) (fun z => 0 ≤ z.2.2 ∧ z.2.2 ≤ ocn) (fun _ => True) (fun z => msr z.2.2 ocn) (by
    rintro ⟨a, b, n⟩ ⟨g1, g2⟩
    dsimp only at g1 g2 ⊢
    unfold f_X7_givenShare_L6 f_Y8_givenShare_L11
    rw [gd_2450 (by decide) (by decide), show w (7 : Int32).toNatClampNeg = ocn from d24]
    by_cases hn : ocn ≤ n
    · exact Or.inr ⟨(a, b), by rw [if_pos hn], by rw [if_pos hn], trivial⟩
    · left
      have hn' : n < ocn := by grind
      obtain ⟨x, x1, x2⟩ := s_hasAll d21 d22 d23 d26 hH g1 hn'
      obtain ⟨-, -, -, -, -, -, h7, -⟩ := hO n g1 hn'
      have h7' : w (383 + n).toNatClampNeg = oop n.toNatClampNeg := h7
      refine ⟨(a + x, b + oop n.toNatClampNeg, n + 1), ?_, ?_, ?_, msr_lt hn'⟩
      · rw [if_neg hn, x1]
        simp only [bnd1, Option.bind_some]
        rw [gd_40 g1 (by grind)]
      · rw [if_neg hn, x2]
        simp only [bnd1, Option.bind_some]
        rw [gd_2450 (by grind) (by grind), h7']
      · dsimp only; grind) fu (0, 0, 0) ⟨by decide, by dsimp only; grind⟩ (msr_fu (by decide) (by grind))
  obtain ⟨a, b⟩ := e
  unfold f_X7_givenShare f_Y8_givenShare
  rw [q1, q2]
  simp only [bnd2, Option.bind_some]
  by_cases hz : a + b = 0
  · exact ⟨_, if_pos hz, if_pos hz⟩
  · exact ⟨_, if_neg hz, if_neg hz⟩

set_option maxRecDepth 4000 in
theorem cs_45 (PL : (Nat → Int32) → (Nat → Int32) → (Nat → Int32) → (Nat → Int64) → (Nat → Int64) → (Nat → Int32) → Prop) (cp1_acts : Int32) (cp1_nextSlot : Int32) (cp1_now_today : Int32) (cp1_now_products : Int32) (cp1_now_itemCount : Int32) (cp1_now_items : Nat → Int32) (cp1_now_books : Nat → Int32) (cp1_now_terms : Nat → Int32) (cp1_now_shelves_lanes : Int32) (cp1_now_shelves_positions : Int32) (cp1_now_shelves_room : Int32) (cp1_now_shelves_gap : Int32) (cp1_now_shelves_places : Int32) (cp1_now_shelves_picked : Int64) (cp1_now_shelves_lot : Nat → Int32) (cp1_now_shelves_pieces : Nat → Int32) (cp1_now_shelves_mark : Nat → Int32) (cp1_now_shelves_byDistance : Nat → Int32) (cp1_now_lots_count : Int32) (cp1_now_lots_product : Nat → Int32) (cp1_now_lots_last : Nat → Int32) (cp1_now_lots_cost : Nat → Int32) (cp1_now_lots_state : Nat → Int32) (cp1_now_lots_byLast : Nat → Int32) (cp1_now_orders_count : Int32) (cp1_now_orders_gifts : Int32) (cp1_now_orders_customer : Nat → Int32) (cp1_now_orders_product : Nat → Int32) (cp1_now_orders_open : Nat → Int32) (cp1_now_orders_due : Nat → Int32) (cp1_now_orders_life : Nat → Int32) (cp1_now_orders_byDue : Nat → Int32) (cp1_now_orders_had : Nat → Int32) (cp1_now_orders_stamps : Nat → Int32) (cp1_hk : Nat) (cp1_st : Nat → StT) (cp1_plan_terms : Nat → Int32) (cp1_plan_low : Nat → Int32) (cp1_plan_high : Nat → Int32) (cp1_plan_bottom : Nat → Int64) (cp1_plan_cost : Nat → Int64) (cp1_plan_act : Nat → Int32) (cp1_picker_deepest : Int32) (cp1_picker_shallowest : Int32) (cp1_picker_widest : Int32) (cp1_picker_least : Nat → Int32) (cp1_picker_next : Nat → Int32) (cp1_rest : Nat → Int32) (cp1_packed : Nat → Int32) (cp2_raised : Int32) (cp2_undos : Int32) (cp2_eldest : Int32) (cp2_w : Nat → Int32) (cp2_kept : Nat → Int32) (cp2_copy : Nat → Int32) (cp2_near : Nat → Int32) (cp2_isDone : Nat → Int32) (cp2_lane : Nat → Int32) (cp2_position : Nat → Int32) (cp2_least : Nat → Int32) (cp2_boxesOf : Nat → Int32) (cp2_staying : Nat → Int64) (cp2_planned : Nat → Int64) (cp2_scale : Nat → Int64) (cp3 : Nat → Int64) (v1 v2 v3 v4 v5 : Int32) (hR : RC PL (cp1_now_today, cp1_now_products, cp1_now_itemCount, cp1_now_items, cp1_now_books, cp1_now_terms, cp1_now_shelves_lanes, cp1_now_shelves_positions, cp1_now_shelves_room, cp1_now_shelves_gap, cp1_now_shelves_places, cp1_now_shelves_picked, cp1_now_shelves_lot, cp1_now_shelves_pieces, cp1_now_shelves_mark, cp1_now_shelves_byDistance, cp1_now_lots_count, cp1_now_lots_product, cp1_now_lots_last, cp1_now_lots_cost, cp1_now_lots_state, cp1_now_lots_byLast, cp1_now_orders_count, cp1_now_orders_gifts, cp1_now_orders_customer, cp1_now_orders_product, cp1_now_orders_open, cp1_now_orders_due, cp1_now_orders_life, cp1_now_orders_byDue, cp1_now_orders_had, cp1_now_orders_stamps) cp2_w cp2_near cp1_acts cp1_nextSlot cp1_hk cp1_st cp2_undos cp2_eldest cp2_kept cp1_plan_terms cp1_plan_low cp1_plan_high cp1_plan_bottom cp1_plan_cost cp1_plan_act) : ∃ z', f_c45 v1 v2 v3 v4 v5 (cp1_acts, cp1_nextSlot, cp1_now_today, cp1_now_products, cp1_now_itemCount, cp1_now_items, cp1_now_books, cp1_now_terms, cp1_now_shelves_lanes, cp1_now_shelves_positions, cp1_now_shelves_room, cp1_now_shelves_gap, cp1_now_shelves_places, cp1_now_shelves_picked, cp1_now_shelves_lot, cp1_now_shelves_pieces, cp1_now_shelves_mark, cp1_now_shelves_byDistance, cp1_now_lots_count, cp1_now_lots_product, cp1_now_lots_last, cp1_now_lots_cost, cp1_now_lots_state, cp1_now_lots_byLast, cp1_now_orders_count, cp1_now_orders_gifts, cp1_now_orders_customer, cp1_now_orders_product, cp1_now_orders_open, cp1_now_orders_due, cp1_now_orders_life, cp1_now_orders_byDue, cp1_now_orders_had, cp1_now_orders_stamps, cp1_hk, cp1_st, cp1_plan_terms, cp1_plan_low, cp1_plan_high, cp1_plan_bottom, cp1_plan_cost, cp1_plan_act, cp1_picker_deepest, cp1_picker_shallowest, cp1_picker_widest, cp1_picker_least, cp1_picker_next, cp1_rest, cp1_packed, cp2_raised, cp2_undos, cp2_eldest, cp2_w, cp2_kept, cp2_copy, cp2_near, cp2_isDone, cp2_lane, cp2_position, cp2_least, cp2_boxesOf, cp2_staying, cp2_planned, cp2_scale, cp3) = some z' ∧ R PL z' := by
  have hS := hR.1
  rw [RS_mk] at hS
  obtain ⟨a1, a2, a3, a4, a5, a6, a7, a8, a9, a10, a11, a12, a13, a14, a15⟩ := hS
  obtain ⟨b, rest1, h1, h2⟩ := p_meanLife (c := cp2_raised) (rest := cp1_rest) a1 a3 a5
  refine ⟨?w, ?h1, ?h2⟩
  case h1 =>
    rw [fc_45, h1]
    simp only [bnd1, bnd2, Option.bind_some]
    rw [h2]
    simp only [Option.bind_some, ↓reduceIte]
    rfl
  case h2 => rw [R_mk]; exact hR
set_option maxRecDepth 4000 in
theorem cs_46 (PL : (Nat → Int32) → (Nat → Int32) → (Nat → Int32) → (Nat → Int64) → (Nat → Int64) → (Nat → Int32) → Prop) (cp1_acts : Int32) (cp1_nextSlot : Int32) (cp1_now_today : Int32) (cp1_now_products : Int32) (cp1_now_itemCount : Int32) (cp1_now_items : Nat → Int32) (cp1_now_books : Nat → Int32) (cp1_now_terms : Nat → Int32) (cp1_now_shelves_lanes : Int32) (cp1_now_shelves_positions : Int32) (cp1_now_shelves_room : Int32) (cp1_now_shelves_gap : Int32) (cp1_now_shelves_places : Int32) (cp1_now_shelves_picked : Int64) (cp1_now_shelves_lot : Nat → Int32) (cp1_now_shelves_pieces : Nat → Int32) (cp1_now_shelves_mark : Nat → Int32) (cp1_now_shelves_byDistance : Nat → Int32) (cp1_now_lots_count : Int32) (cp1_now_lots_product : Nat → Int32) (cp1_now_lots_last : Nat → Int32) (cp1_now_lots_cost : Nat → Int32) (cp1_now_lots_state : Nat → Int32) (cp1_now_lots_byLast : Nat → Int32) (cp1_now_orders_count : Int32) (cp1_now_orders_gifts : Int32) (cp1_now_orders_customer : Nat → Int32) (cp1_now_orders_product : Nat → Int32) (cp1_now_orders_open : Nat → Int32) (cp1_now_orders_due : Nat → Int32) (cp1_now_orders_life : Nat → Int32) (cp1_now_orders_byDue : Nat → Int32) (cp1_now_orders_had : Nat → Int32) (cp1_now_orders_stamps : Nat → Int32) (cp1_hk : Nat) (cp1_st : Nat → StT) (cp1_plan_terms : Nat → Int32) (cp1_plan_low : Nat → Int32) (cp1_plan_high : Nat → Int32) (cp1_plan_bottom : Nat → Int64) (cp1_plan_cost : Nat → Int64) (cp1_plan_act : Nat → Int32) (cp1_picker_deepest : Int32) (cp1_picker_shallowest : Int32) (cp1_picker_widest : Int32) (cp1_picker_least : Nat → Int32) (cp1_picker_next : Nat → Int32) (cp1_rest : Nat → Int32) (cp1_packed : Nat → Int32) (cp2_raised : Int32) (cp2_undos : Int32) (cp2_eldest : Int32) (cp2_w : Nat → Int32) (cp2_kept : Nat → Int32) (cp2_copy : Nat → Int32) (cp2_near : Nat → Int32) (cp2_isDone : Nat → Int32) (cp2_lane : Nat → Int32) (cp2_position : Nat → Int32) (cp2_least : Nat → Int32) (cp2_boxesOf : Nat → Int32) (cp2_staying : Nat → Int64) (cp2_planned : Nat → Int64) (cp2_scale : Nat → Int64) (cp3 : Nat → Int64) (v1 v2 v3 v4 v5 : Int32) (hR : RC PL (cp1_now_today, cp1_now_products, cp1_now_itemCount, cp1_now_items, cp1_now_books, cp1_now_terms, cp1_now_shelves_lanes, cp1_now_shelves_positions, cp1_now_shelves_room, cp1_now_shelves_gap, cp1_now_shelves_places, cp1_now_shelves_picked, cp1_now_shelves_lot, cp1_now_shelves_pieces, cp1_now_shelves_mark, cp1_now_shelves_byDistance, cp1_now_lots_count, cp1_now_lots_product, cp1_now_lots_last, cp1_now_lots_cost, cp1_now_lots_state, cp1_now_lots_byLast, cp1_now_orders_count, cp1_now_orders_gifts, cp1_now_orders_customer, cp1_now_orders_product, cp1_now_orders_open, cp1_now_orders_due, cp1_now_orders_life, cp1_now_orders_byDue, cp1_now_orders_had, cp1_now_orders_stamps) cp2_w cp2_near cp1_acts cp1_nextSlot cp1_hk cp1_st cp2_undos cp2_eldest cp2_kept cp1_plan_terms cp1_plan_low cp1_plan_high cp1_plan_bottom cp1_plan_cost cp1_plan_act) : ∃ z', f_c46 v1 v2 v3 v4 v5 (cp1_acts, cp1_nextSlot, cp1_now_today, cp1_now_products, cp1_now_itemCount, cp1_now_items, cp1_now_books, cp1_now_terms, cp1_now_shelves_lanes, cp1_now_shelves_positions, cp1_now_shelves_room, cp1_now_shelves_gap, cp1_now_shelves_places, cp1_now_shelves_picked, cp1_now_shelves_lot, cp1_now_shelves_pieces, cp1_now_shelves_mark, cp1_now_shelves_byDistance, cp1_now_lots_count, cp1_now_lots_product, cp1_now_lots_last, cp1_now_lots_cost, cp1_now_lots_state, cp1_now_lots_byLast, cp1_now_orders_count, cp1_now_orders_gifts, cp1_now_orders_customer, cp1_now_orders_product, cp1_now_orders_open, cp1_now_orders_due, cp1_now_orders_life, cp1_now_orders_byDue, cp1_now_orders_had, cp1_now_orders_stamps, cp1_hk, cp1_st, cp1_plan_terms, cp1_plan_low, cp1_plan_high, cp1_plan_bottom, cp1_plan_cost, cp1_plan_act, cp1_picker_deepest, cp1_picker_shallowest, cp1_picker_widest, cp1_picker_least, cp1_picker_next, cp1_rest, cp1_packed, cp2_raised, cp2_undos, cp2_eldest, cp2_w, cp2_kept, cp2_copy, cp2_near, cp2_isDone, cp2_lane, cp2_position, cp2_least, cp2_boxesOf, cp2_staying, cp2_planned, cp2_scale, cp3) = some z' ∧ R PL z' := by
  have hS := hR.1
  rw [RS_mk] at hS
  obtain ⟨a1, a2, a3, a4, a5, a6, a7, a8, a9, a10, a11, a12, a13, a14, a15⟩ := hS
  obtain ⟨b, h1, h2⟩ := p_givenShare (c := cp2_raised) a1 a7 a9
  refine ⟨?w, ?h1, ?h2⟩
  case h1 =>
    rw [fc_46, h1]
    simp only [bnd1, bnd2, Option.bind_some]
    rw [h2]
    simp only [Option.bind_some, ↓reduceIte]
    rfl
  case h2 => rw [R_mk]; exact hR
