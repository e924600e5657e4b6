/-! ===== answers of the calls that look ===== -/
theorem a_pl0 {n plc pos gp : Int32} {plot ppc pmk : Nat → Int32} (hc : plc ≤ 48) (h0 : 0 ≤ n) (h1 : n < plc) : f_X7_placeAt n 0 pos gp plc plot ppc pmk = some (.ok (ix plot n)) := by
  have e : f_X7_placeAt n 0 pos gp plc plot ppc pmk = bnd1 (f_X7_needPlace n plc) (fun r1 => mx r1 (fun E3 => some (.error E3)) (fun _ => gd n 48 (some (.ok (plot n.toNatClampNeg))))) := rfl
  rw [e, n_needPlace _ _ hc, if_pos ⟨h0, h1⟩]
  exact gd_48 h0 (by grind)
theorem a_pl1 {n plc pos gp : Int32} {plot ppc pmk : Nat → Int32} (hc : plc ≤ 48) (h0 : 0 ≤ n) (h1 : n < plc) : f_X7_placeAt n 1 pos gp plc plot ppc pmk = some (.ok (ix ppc n)) := by
  have e : f_X7_placeAt n 1 pos gp plc plot ppc pmk = bnd1 (f_X7_needPlace n plc) (fun r1 => mx r1 (fun E3 => some (.error E3)) (fun _ => gd n 48 (some (.ok (ppc n.toNatClampNeg))))) := rfl
  rw [e, n_needPlace _ _ hc, if_pos ⟨h0, h1⟩]
  exact gd_48 h0 (by grind)
theorem a_pl3 {n plc pos gp : Int32} {plot ppc pmk : Nat → Int32} (hc : plc ≤ 48) (h0 : 0 ≤ n) (h1 : n < plc) : f_X7_placeAt n 3 pos gp plc plot ppc pmk = some (.ok (ix pmk n)) := by
  have e : f_X7_placeAt n 3 pos gp plc plot ppc pmk = bnd1 (f_X7_needPlace n plc) (fun r1 => mx r1 (fun E3 => some (.error E3)) (fun _ => gd n 48 (some (.ok (pmk n.toNatClampNeg))))) := rfl
  rw [e, n_needPlace _ _ hc, if_pos ⟨h0, h1⟩]
  exact gd_48 h0 (by grind)
theorem a_or0 {n ocn : Int32} {ocu opr oop odu oli oha : Nat → Int32} (hc : ocn ≤ 40) (h0 : 0 ≤ n) (h1 : n < ocn) : f_X7_orderAt n 0 ocn ocu opr oop odu oli oha = some (.ok (ix ocu n)) := by
  have e : f_X7_orderAt n 0 ocn ocu opr oop odu oli oha = bnd1 (f_X7_needOrder n ocn) (fun r1 => mx r1 (fun E3 => some (.error E3)) (fun _ => gd n 40 (some (.ok (ocu n.toNatClampNeg))))) := rfl
  rw [e, n_needOrder _ _ hc, if_pos ⟨h0, h1⟩]
  exact gd_40 h0 (by grind)
theorem a_or1 {n ocn : Int32} {ocu opr oop odu oli oha : Nat → Int32} (hc : ocn ≤ 40) (h0 : 0 ≤ n) (h1 : n < ocn) : f_X7_orderAt n 1 ocn ocu opr oop odu oli oha = some (.ok (ix opr n)) := by
  have e : f_X7_orderAt n 1 ocn ocu opr oop odu oli oha = bnd1 (f_X7_needOrder n ocn) (fun r1 => mx r1 (fun E3 => some (.error E3)) (fun _ => gd n 40 (some (.ok (opr n.toNatClampNeg))))) := rfl
  rw [e, n_needOrder _ _ hc, if_pos ⟨h0, h1⟩]
  exact gd_40 h0 (by grind)
theorem a_or2 {n ocn : Int32} {ocu opr oop odu oli oha : Nat → Int32} (hc : ocn ≤ 40) (h0 : 0 ≤ n) (h1 : n < ocn) : f_X7_orderAt n 2 ocn ocu opr oop odu oli oha = some (.ok (ix oop n)) := by
  have e : f_X7_orderAt n 2 ocn ocu opr oop odu oli oha = bnd1 (f_X7_needOrder n ocn) (fun r1 => mx r1 (fun E3 => some (.error E3)) (fun _ => gd n 40 (some (.ok (oop n.toNatClampNeg))))) := rfl
  rw [e, n_needOrder _ _ hc, if_pos ⟨h0, h1⟩]
  exact gd_40 h0 (by grind)
theorem a_or3 {n ocn x : Int32} {ocu opr oop odu oli oha : Nat → Int32} (hc : ocn ≤ 40) (h0 : 0 ≤ n) (h1 : n < ocn) (hx : f_X2_piecesAt n ocn oha = some x) : f_X7_orderAt n 3 ocn ocu opr oop odu oli oha = some (.ok x) := by
  have e : f_X7_orderAt n 3 ocn ocu opr oop odu oli oha = bnd1 (f_X7_needOrder n ocn) (fun r1 => mx r1 (fun E3 => some (.error E3)) (fun _ => bnd1 (f_X2_piecesAt n ocn oha) (fun r14 => some (.ok r14)))) := rfl
  rw [e, n_needOrder _ _ hc, if_pos ⟨h0, h1⟩, hx]
  rfl
theorem a_or5 {n ocn : Int32} {ocu opr oop odu oli oha : Nat → Int32} (hc : ocn ≤ 40) (h0 : 0 ≤ n) (h1 : n < ocn) : f_X7_orderAt n 5 ocn ocu opr oop odu oli oha = some (.ok (ix odu n + ix oli n)) := by
  have e : f_X7_orderAt n 5 ocn ocu opr oop odu oli oha = bnd1 (f_X7_needOrder n ocn) (fun r1 => mx r1 (fun E3 => some (.error E3)) (fun _ => bnd1 (f_X2_wantedDay n ocn odu oli) (fun r14 => some (.ok r14)))) := rfl
  rw [e, n_needOrder _ _ hc, if_pos ⟨h0, h1⟩, n_wanted hc h0 h1]
  rfl
theorem a_lt0 {n lcn plc ocn : Int32} {plot ppc lpr lla lco lst oha : Nat → Int32} (hc : lcn ≤ 24) (h0 : 0 ≤ n) (h1 : n < lcn) : f_X7_lotAt n 0 plc plot ppc lcn lpr lla lco lst ocn oha = some (.ok (ix lpr n)) := by
  have e : f_X7_lotAt n 0 plc plot ppc lcn lpr lla lco lst ocn oha = bnd1 (f_X7_needLot n lcn) (fun r1 => mx r1 (fun E3 => some (.error E3)) (fun _ => gd n 24 (some (.ok (lpr n.toNatClampNeg))))) := rfl
  rw [e, n_needLot _ _ hc, if_pos ⟨h0, h1⟩]
  exact gd_24 h0 (by grind)
theorem a_lt1 {n lcn plc ocn : Int32} {plot ppc lpr lla lco lst oha : Nat → Int32} (hc : lcn ≤ 24) (h0 : 0 ≤ n) (h1 : n < lcn) (p0 : 0 ≤ plc) (p1 : plc ≤ 48) : f_X7_lotAt n 1 plc plot ppc lcn lpr lla lco lst ocn oha = some (.ok (pof plc plot ppc n)) := by
  have e : f_X7_lotAt n 1 plc plot ppc lcn lpr lla lco lst ocn oha = bnd1 (f_X7_needLot n lcn) (fun r1 => mx r1 (fun E3 => some (.error E3)) (fun _ => bnd1 (f_X5_piecesOf n plc plot ppc) (fun r10 => some (.ok r10)))) := rfl
  rw [e, n_needLot _ _ hc, if_pos ⟨h0, h1⟩, pof_sum p0 p1]
  rfl
theorem a_lt2 {n lcn plc ocn : Int32} {plot ppc lpr lla lco lst oha : Nat → Int32} (hc : lcn ≤ 24) (h0 : 0 ≤ n) (h1 : n < lcn) : f_X7_lotAt n 2 plc plot ppc lcn lpr lla lco lst ocn oha = some (.ok (ix lla n)) := by
  have e : f_X7_lotAt n 2 plc plot ppc lcn lpr lla lco lst ocn oha = bnd1 (f_X7_needLot n lcn) (fun r1 => mx r1 (fun E3 => some (.error E3)) (fun _ => gd n 24 (some (.ok (lla n.toNatClampNeg))))) := rfl
  rw [e, n_needLot _ _ hc, if_pos ⟨h0, h1⟩]
  exact gd_24 h0 (by grind)
theorem a_lt4 {n lcn plc ocn : Int32} {plot ppc lpr lla lco lst oha : Nat → Int32} (hc : lcn ≤ 24) (h0 : 0 ≤ n) (h1 : n < lcn) : f_X7_lotAt n 4 plc plot ppc lcn lpr lla lco lst ocn oha = some (.ok (ix lst n)) := by
  have e : f_X7_lotAt n 4 plc plot ppc lcn lpr lla lco lst ocn oha = bnd1 (f_X7_needLot n lcn) (fun r1 => mx r1 (fun E3 => some (.error E3)) (fun _ => gd n 24 (some (.ok (lst n.toNatClampNeg))))) := rfl
  rw [e, n_needLot _ _ hc, if_pos ⟨h0, h1⟩]
  exact gd_24 h0 (by grind)
theorem a_lt5 {n lcn plc ocn x : Int32} {plot ppc lpr lla lco lst oha : Nat → Int32} (hc : lcn ≤ 24) (h0 : 0 ≤ n) (h1 : n < lcn) (hx : f_X2_piecesOutOf n ocn oha = some x) : f_X7_lotAt n 5 plc plot ppc lcn lpr lla lco lst ocn oha = some (.ok x) := by
  have e : f_X7_lotAt n 5 plc plot ppc lcn lpr lla lco lst ocn oha = bnd1 (f_X7_needLot n lcn) (fun r1 => mx r1 (fun E3 => some (.error E3)) (fun _ => bnd1 (f_X2_piecesOutOf n ocn oha) (fun r18 => some (.ok r18)))) := rfl
  rw [e, n_needLot _ _ hc, if_pos ⟨h0, h1⟩, hx]
  rfl
theorem a_bk {plc : Int32} {bks ppc : Nat → Int32} : f_X7_book 0 bks plc ppc = some (.ok (bks 0)) ∧ f_X7_book 1 bks plc ppc = some (.ok (bks 1)) ∧ f_X7_book 2 bks plc ppc = some (.ok (bks 2)) ∧ f_X7_book 3 bks plc ppc = some (.ok (bks 3)) ∧ f_X7_book 4 bks plc ppc = some (.ok (bks 4)) ∧ f_X7_book 5 bks plc ppc = some (.ok (bks 5)) := ⟨rfl, rfl, rfl, rfl, rfl, rfl⟩
theorem a_bk6 {plc : Int32} {bks ppc : Nat → Int32} (p0 : 0 ≤ plc) (p1 : plc ≤ 48) : f_X7_book 6 bks plc ppc = some (.ok (isum (ix ppc) plc.toNatClampNeg)) := by
  have e : f_X7_book 6 bks plc ppc = bnd1 (f_X5_piecesOnHand plc ppc) (fun r6 => some (.ok r6)) := rfl
  rw [e, hand_sum p0 p1]
  rfl
/-- the pieces on hand of a product -/
def stk (p lcn plc : Int32) (lpr plot ppc : Nat → Int32) : Int32 := isum (fun l => if ix lpr l = p then pof plc plot ppc l else 0) lcn.toNatClampNeg
theorem a_stk {p prods lcn plc rom : Int32} {plot ppc pmk lpr rest w : Nat → Int32} (hw : w 1 * w 2 = plc) (p1 : 1 ≤ plc) (p2 : plc ≤ 48) (l0 : 0 ≤ lcn) (l1 : lcn ≤ 24) (hP : QP plc rom lcn plot ppc pmk w) (h0 : 0 ≤ p) (h1 : p < prods) : ∃ rest', f_X7_stock p prods plc plot ppc lcn lpr rest = some (.ok (stk p lcn plc lpr plot ppc), rest') := by
  obtain ⟨rest', c1, c2⟩ := count_pof hw p1 p2 l1 hP rest
  refine ⟨rest', ?_⟩
  unfold f_X7_stock
  rw [n_needProduct, if_pos ⟨h0, h1⟩, c1]
  simp only [bnd1, Option.bind_some, mx]
  rw [sum_loop (F := fun l => if ix lpr l = p then pof plc plot ppc l else 0) (g := fun z : Int32 × Int32 => f_X7_stock_L23 p prods plc plot ppc lcn lpr rest' z.1 z.2) l0 (by grind) (fun a n n0 n1 => by
    dsimp only
    unfold f_X7_stock_L23 f_X7_stock_L23_J62
    by_cases hn : lcn ≤ n
    · rw [if_pos hn, if_pos hn]
    · rw [if_neg hn, if_neg hn, gd_24 n0 (by grind), gd_24 n0 (by grind)]
      by_cases h : ix lpr n = p
      · rw [if_pos h, if_pos h, show rest' n.toNatClampNeg = pof plc plot ppc n from c2 n n0 (by grind)]
      · rw [if_neg h, if_neg h, Int32.add_zero])]
  rfl
/-! ===== sums in two ways ===== -/
theorem isum_zero {F : Int32 → Int32} {N : Int32} (h : ∀ n : Int32, 0 ≤ n → n < N → F n = 0) : isum F N.toNatClampNeg = 0 := by
  rw [isum_eq (G := fun _ => (0 : Int32) * 0) (fun n n0 n1 => by rw [h n n0 n1]; rfl), isum_mul, Int32.zero_mul]
/-- a sum with one place that counts -/
theorem isum_one {x v N : Int32} (h0 : 0 ≤ x) (h1 : x < N) : isum (fun a => if x = a then v else 0) N.toNatClampNeg = v := by
  have h := isum_upd (F := fun _ => (0 : Int32)) (G := fun a => if x = a then v else 0) h0 h1 (fun n _ _ hn => if_neg (fun z => hn z.symm))
  rw [h, isum_zero (fun _ _ _ => rfl), if_pos rfl]
  grind
theorem pof_all {plc rom lcn : Int32} {plot ppc pmk w : Nat → Int32} (hP : QP plc rom lcn plot ppc pmk w) : isum (fun l => pof plc plot ppc l) lcn.toNatClampNeg = isum (ix ppc) plc.toNatClampNeg := by
  have e : isum (fun l => pof plc plot ppc l) lcn.toNatClampNeg = isum (fun l => isum (fun p => if 1 ≤ ix ppc p ∧ ix plot p = l then ix ppc p else 0) plc.toNatClampNeg) lcn.toNatClampNeg := rfl
  rw [e, isum_swap]
  refine isum_eq (fun n n0 n1 => ?_)
  obtain ⟨-, -, -, q0, -, q⟩ := hP n n0 n1
  rcases q with ⟨q, -⟩ | ⟨q, q1, q2⟩
  · rw [isum_zero (fun l _ _ => if_neg (by rw [q]; rintro ⟨z, -⟩; exact absurd z (by decide)))]
    exact q.symm
  · rw [isum_eq (G := fun l => if ix plot n = l then ix ppc n else 0) (fun l _ _ => by
      by_cases h : ix plot n = l
      · rw [if_pos h, if_pos ⟨q, h⟩]
      · rw [if_neg h, if_neg (fun z => h z.2)])]
    exact isum_one q1 q2
theorem stk_all {plc rom lcn prods : Int32} {plot ppc pmk lpr lla lco lst w : Nat → Int32} (hP : QP plc rom lcn plot ppc pmk w) (hL : QL lcn prods lpr lla lco lst w) : isum (fun p => stk p lcn plc lpr plot ppc) prods.toNatClampNeg = isum (ix ppc) plc.toNatClampNeg := by
  rw [← pof_all hP]
  have e : isum (fun p => stk p lcn plc lpr plot ppc) prods.toNatClampNeg = isum (fun p => isum (fun l => if ix lpr l = p then pof plc plot ppc l else 0) lcn.toNatClampNeg) prods.toNatClampNeg := rfl
  rw [e, isum_swap]
  refine isum_eq (fun n n0 n1 => ?_)
  obtain ⟨-, q1, q2, -⟩ := hL n n0 n1
  exact isum_one q1 q2
theorem isum_inc {F : Int32 → Int32} {k : Int32} (h0 : 0 ≤ k) (h1 : k < 90000) : isum F (k + 1).toNatClampNeg = isum F k.toNatClampNeg + F k := by
  rw [tn_inc h0 h1]
  show isum F k.toNatClampNeg + F (Int32.ofNat k.toNatClampNeg) = _
  rw [of_tn h0]
theorem msr_le {n N : Int32} {M : Nat} (h : 0 ≤ n) (hN : N.toInt < M) (hM : 0 < M) : msr n N < M := by
  have h1 := Int32.le_iff_toInt_le.mp h
  have e : (0 : Int32).toInt = 0 := rfl
  unfold msr
  omega
/-! ===== isBooked ===== -/
theorem t_booked {tod prods lan pos rom gp plc lcn ocn la po pr : Int32} {bks plot ppc pmk lpr lla lco lst rest w : Nat → Int32} (hD : QD tod prods lan pos rom gp plc lcn ocn w) (hP : QP plc rom lcn plot ppc pmk w) (hL : QL lcn prods lpr lla lco lst w) (hA : QA plc bks ppc) (h1 : la * po = plc) (h2 : pr = prods) : ∃ rest', f_L_isBooked la po pr prods bks pos gp plc plot ppc pmk lcn lpr rest = some (1, rest') := by
  obtain ⟨d0, d1, d2, d3, d4, d5, d6, d7, d8, d9, d10, d11, d12, d13, d14, d15, d16, d17, d18, d19, d20, d21, d22, d23, d24, d25, d26⟩ := hD
  have hw : w 1 * w 2 = plc := by rw [d3, d6, d15]
  have p0 : 0 ≤ plc := by grind
  subst h2
  obtain ⟨hd, A1, A2⟩ := hA
  rw [hand_sum p0 d17] at A1
  have A3 := Option.some.inj A1
  have pi := i_le.mp d20
  rw [show (6 : Int32).toInt = 6 from rfl] at pi
  obtain ⟨⟨m, r⟩, q1, q2⟩ := lp_one (f := fun z : Int32 × Int32 × (Nat → Int32) => f_L_isBooked_L39 (isum (ix ppc) plc.toNatClampNeg) la po pr pr bks pos gp plc plot ppc pmk lcn lpr z.1 z.2.1 z.2.2) (fun z => 0 ≤ z.2.1 ∧ z.2.1 ≤ pr ∧ z.1 = isum (fun p => stk p lcn plc lpr plot ppc) z.2.1.toNatClampNeg) (fun e => e.1 = isum (fun p => stk p lcn plc lpr plot ppc) pr.toNatClampNeg) (fun z => msr z.2.1 pr) (by
    rintro ⟨a, n, r⟩ ⟨g1, g2, g3⟩
    dsimp only at g1 g2 g3 ⊢
    unfold f_L_isBooked_L39
    by_cases hn : pr ≤ n
    · right
      rw [if_pos hn]
      have : n = pr := by grind
      exact ⟨_, rfl, by dsimp only; rw [g3, this]⟩
    · left
      have hn' : n < pr := by grind
      obtain ⟨r', s1⟩ := a_stk (lpr := lpr) (rest := r) hw d16 d17 d22 d23 hP g1 hn'
      rw [if_neg hn, s1]
      simp only [bnd2, Option.bind_some, mx]
      refine ⟨_, rfl, ⟨by grind, by grind, ?_⟩, msr_lt hn'⟩
      dsimp only
      rw [g3, isum_inc g1 (by grind)]) 10 (0, 0, rest) ⟨by dsimp only; decide, d19, rfl⟩ (by dsimp only; exact msr_le (by decide) (by omega) (by decide))
  dsimp only at q2
  have q3 : m = isum (ix ppc) plc.toNatClampNeg := by rw [q2]; exact stk_all hP hL
  obtain ⟨b0, b1, b2, b3, b4, b5⟩ := a_bk (plc := plc) (bks := bks) (ppc := ppc)
  refine ⟨r, ?_⟩
  unfold f_L_isBooked
  rw [sum_loop (F := ix ppc) (g := fun z : Int32 × Int32 => f_L_isBooked_L4 la po pr pr bks pos gp plc plot ppc pmk lcn lpr rest z.1 z.2) p0 (by grind) (fun a n n0 n1 => by
    dsimp only
    unfold f_L_isBooked_L4
    rw [h1]
    by_cases hn : plc ≤ n
    · rw [if_pos hn, if_pos hn]
    · rw [if_neg hn, if_neg hn, a_pl1 d17 n0 (by grind)]
      simp only [bnd1, Option.bind_some, mx])]
  simp only [bnd1, Option.bind_some]
  rw [q1]
  simp only [bnd2, Option.bind_some]
  rw [a_bk6 p0 d17]
  simp only [Option.bind_some, mx]
  rw [if_pos trivial, if_pos q3, b0]
  simp only [Option.bind_some, mx]
  rw [b2]
  simp only [Option.bind_some, mx]
  rw [b5]
  simp only [Option.bind_some, mx]
  rw [b1]
  simp only [Option.bind_some, mx]
  rw [b3]
  simp only [Option.bind_some, mx]
  rw [b4]
  simp only [Option.bind_some, mx]
  rw [if_pos (by rw [A3, ← A2]; grind)]
