/-! ===== observers of lots, places, orders ===== -/
theorem L_ok {o : Nat → Int64} {v : Int64} : vp_updL o (0 : Int32).toNatClampNeg v 0 = v := rfl
theorem cl_ok {o : Nat → Int64} {x y : Int32} (h : x = y) : ∃ (k : Int32) (o' : Nat → Int64) (b : Int32), gd 0 1 (some ((0 : Int32), vp_updL o (0 : Int32).toNatClampNeg x.toInt64)) = some (k, o') ∧ some (y, (0 : Int32)) = some (b, k) ∧ (k = 0 → o' 0 = b.toInt64) := by
  subst h
  exact ⟨0, _, _, gd_1 (by decide) (by decide), rfl, fun _ => rfl⟩
theorem cl_no {o : Nat → Int64} {m : Int32} (h : m ≠ 0) : ∃ (k : Int32) (o' : Nat → Int64) (b : Int32), some (m, o) = some (k, o') ∧ some ((0 : Int32), m) = some (b, k) ∧ (k = 0 → o' 0 = b.toInt64) := ⟨m, o, 0, rfl, rfl, fun z => absurd z h⟩
theorem p_lotAt {tod prods lan pos rom gp plc lcn ocn v1 v2 c : Int32} {plot ppc pmk lpr lla lco lst oha w : Nat → Int32} {o : Nat → Int64} (hD : QD tod prods lan pos rom gp plc lcn ocn w) (hP : QP plc rom lcn plot ppc pmk w) (hL : QL lcn prods lpr lla lco lst w) (hH : QH ocn lcn oha w) :
    ∃ k o' b, f_W_lotAt v1 v2 plc plot ppc lcn lpr lla lco lst ocn oha o = some (k, o') ∧ f_Y8_lotAt v1 v2 c w = some (b, k) ∧ (k = 0 → o' 0 = b.toInt64) := by
  obtain ⟨d0, d1, d2, d3, d4, d5, d6, d7, d8, d9, d10, d11, d12, d13, d14, d15, d16, d17, d18, d19, d20, d21, d22, d23, d24, d25, d26⟩ := hD
  have e7 : f_X7_needLot v1 lcn = _ := n_needLot v1 lcn (by grind)
  have e8 : f_Y8_isLot v1 w = _ := n_isLot v1 w (by grind) (by grind)
  unfold f_W_lotAt f_X7_lotAt f_Y8_lotAt
  rw [e7, e8, d21]
  simp only [bnd1, bnd2, Option.bind_some, n_can, n_in, n_range]
  by_cases h1 : 0 ≤ v1 ∧ v1 < lcn
  · by_cases h2 : 0 ≤ v2 ∧ v2 ≤ 5
    · obtain ⟨q1, q2⟩ := h1
      obtain ⟨a1, a2, a3, a4, a5, a6, a7, a8, a9, a10, a11, a12⟩ := hL v1 q1 q2
      obtain ⟨r1, s1, s2⟩ := s_onHand (l := v1) (by grind) d16 d17 hP q1
      obtain ⟨r2, t1, t2⟩ := s_with (l := v1) (by grind) d25 d26 hH q1 (by grind)
      have h1 : 0 ≤ v1 ∧ v1 < lcn := ⟨q1, q2⟩
      simp only [if_pos h1, if_pos h2, mx, s1, s2, t1, t2, Option.bind_some]
      rw [gd_24 q1 (by grind), gd_24 q1 (by grind), gd_24 q1 (by grind), gd_24 q1 (by grind), gd_2450 (by grind) (by grind), gd_2450 (by grind) (by grind), gd_2450 (by grind) (by grind), gd_2450 (by grind) (by grind)]
      by_cases c0 : v2 = 0
      · simp only [if_pos c0]; exact cl_ok (by grind)
      by_cases c1 : v2 = 1
      · simp only [if_neg c0, if_pos c1]; exact cl_ok rfl
      by_cases c2 : v2 = 2
      · simp only [if_neg c0, if_neg c1, if_pos c2]; exact cl_ok (by grind)
      by_cases c3 : v2 = 3
      · simp only [if_neg c0, if_neg c1, if_neg c2, if_pos c3]; exact cl_ok (by grind)
      by_cases c4 : v2 = 4
      · simp only [if_neg c0, if_neg c1, if_neg c2, if_neg c3, if_pos c4]; exact cl_ok (by grind)
      · simp only [if_neg c0, if_neg c1, if_neg c2, if_neg c3, if_neg c4]; exact cl_ok rfl
    · simp only [if_pos h1, if_neg h2, mx, String.reduceEq, ↓reduceIte, Option.bind_some]
      exact cl_no (by decide)
  · simp only [if_neg h1, mx, String.reduceEq, ↓reduceIte, Option.bind_some]
    exact cl_no (by decide)
