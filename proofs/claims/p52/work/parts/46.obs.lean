theorem p_placeAt {tod prods lan pos rom gp plc lcn ocn v1 v2 c : Int32} {plot ppc pmk w : Nat → Int32} {o : Nat → Int64} (hD : QD tod prods lan pos rom gp plc lcn ocn w) (hP : QP plc rom lcn plot ppc pmk w) :
    ∃ k o' b, f_W_placeAt v1 v2 pos gp plc plot ppc pmk o = some (k, o') ∧ f_Y8_placeAt v1 v2 c w = some (b, k) ∧ (k = 0 → o' 0 = b.toInt64) := by
  obtain ⟨d0, d1, d2, d3, d4, d5, d6, d7, d8, d9, d10, d11, d12, d13, d14, d15, d16, d17, d18, d19, d20, d21, d22, d23, d24, d25, d26⟩ := hD
  have hw : w 1 * w 2 = plc := by rw [d3, d6, d15]
  have e7 : f_X7_needPlace v1 plc = _ := n_needPlace v1 plc (by grind)
  have e8 : f_Y8_isPlace v1 w = _ := n_isPlace v1 w (by rw [hw]; grind) (by rw [hw]; exact d17)
  unfold f_W_placeAt f_X7_placeAt f_Y8_placeAt
  rw [e7, e8, hw]
  simp only [bnd1, bnd2, Option.bind_some, n_can, n_in, n_range]
  by_cases h1 : 0 ≤ v1 ∧ v1 < plc
  · by_cases h2 : 0 ≤ v2 ∧ v2 ≤ 3
    · obtain ⟨q1, q2⟩ := h1
      obtain ⟨a1, a2, a3, -⟩ := hP v1 q1 q2
      obtain ⟨r1, r2, -⟩ := s_dist (v := v1) d6 d12 d7
      have h1 : 0 ≤ v1 ∧ v1 < plc := ⟨q1, q2⟩
      simp only [if_pos h1, if_pos h2, mx, r1, r2, Option.bind_some]
      rw [gd_48 q1 (by grind), gd_48 q1 (by grind), gd_48 q1 (by grind), gd_2450 (by grind) (by grind), gd_2450 (by grind) (by grind), gd_2450 (by grind) (by grind)]
      by_cases c0 : v2 = 0
      · simp only [if_pos c0]; exact cl_ok (by grind)
      by_cases c1 : v2 = 1
      · simp only [if_neg c0, if_pos c1]; exact cl_ok (by grind)
      by_cases c2 : v2 = 2
      · simp only [if_neg c0, if_neg c1, if_pos c2]; exact cl_ok rfl
      · simp only [if_neg c0, if_neg c1, if_neg c2]; exact cl_ok (by grind)
    · simp only [if_pos h1, if_neg h2, mx, String.reduceEq, ↓reduceIte, Option.bind_some]
      exact cl_no (by decide)
  · simp only [if_neg h1, mx, String.reduceEq, ↓reduceIte, Option.bind_some]
    exact cl_no (by decide)
theorem p_orderAt {tod prods lan pos rom gp plc lcn ocn v1 v2 c : Int32} {ocu opr oop odu oli oha w : Nat → Int32} {o : Nat → Int64} (hD : QD tod prods lan pos rom gp plc lcn ocn w) (hO : QO ocn prods ocu opr oop odu oli w) (hH : QH ocn lcn oha w) :
    ∃ k o' b, f_W_orderAt v1 v2 ocn ocu opr oop odu oli oha o = some (k, o') ∧ f_Y8_orderAt v1 v2 c w = some (b, k) ∧ (k = 0 → o' 0 = b.toInt64) := by
  obtain ⟨d0, d1, d2, d3, d4, d5, d6, d7, d8, d9, d10, d11, d12, d13, d14, d15, d16, d17, d18, d19, d20, d21, d22, d23, d24, d25, d26⟩ := hD
  have e7 : f_X7_needOrder v1 ocn = _ := n_needOrder v1 ocn (by grind)
  have e8 : f_Y8_isOrder v1 w = _ := n_isOrder v1 w (by grind) (by grind)
  unfold f_W_orderAt f_X7_orderAt f_Y8_orderAt
  rw [e7, e8, d24]
  simp only [bnd1, bnd2, Option.bind_some, n_can, n_in, n_range]
  by_cases h1 : 0 ≤ v1 ∧ v1 < ocn
  · by_cases h2 : 0 ≤ v2 ∧ v2 ≤ 5
    · obtain ⟨q1, q2⟩ := h1
      obtain ⟨a1, a2, a3, a4, a5, a6, a7, a8, a9, a10, a11, a12, a13, a14, a15⟩ := hO v1 q1 q2
      obtain ⟨r1, s1, s2⟩ := s_hasAll (v := v1) d21 d22 d23 d26 hH q1 q2
      have h1 : 0 ≤ v1 ∧ v1 < ocn := ⟨q1, q2⟩
      have r2 : f_X2_wantedDay v1 ocn odu oli = some (ix odu v1 + ix oli v1) := by
        unfold f_X2_wantedDay
        rw [n_exO v1 ocn d26, if_pos h1]
        simp only [bnd1, Option.bind_some]
        rw [if_neg (by decide), gd_40 q1 (by grind), gd_40 q1 (by grind)]
      simp only [if_pos h1, if_pos h2, mx, s1, s2, r2, Option.bind_some]
      rw [gd_40 q1 (by grind), gd_40 q1 (by grind), gd_40 q1 (by grind), gd_40 q1 (by grind), gd_2450 (by grind) (by grind), gd_2450 (by grind) (by grind), gd_2450 (by grind) (by grind), gd_2450 (by grind) (by grind), gd_2450 (by grind) (by grind)]
      by_cases c0 : v2 = 0
      · simp only [if_pos c0]; exact cl_ok (by grind)
      by_cases c1 : v2 = 1
      · simp only [if_neg c0, if_pos c1]; exact cl_ok (by grind)
      by_cases c2 : v2 = 2
      · simp only [if_neg c0, if_neg c1, if_pos c2]; exact cl_ok (by grind)
      by_cases c3 : v2 = 3
      · simp only [if_neg c0, if_neg c1, if_neg c2, if_pos c3]; exact cl_ok rfl
      by_cases c4 : v2 = 4
      · simp only [if_neg c0, if_neg c1, if_neg c2, if_neg c3, if_pos c4]; exact cl_ok (by grind)
      · simp only [if_neg c0, if_neg c1, if_neg c2, if_neg c3, if_neg c4]; exact cl_ok (by grind)
    · simp only [if_pos h1, if_neg h2, mx, String.reduceEq, ↓reduceIte, Option.bind_some]
      exact cl_no (by decide)
  · simp only [if_neg h1, mx, String.reduceEq, ↓reduceIte, Option.bind_some]
    exact cl_no (by decide)
theorem p_book {tod prods lan pos rom gp plc lcn ocn v1 c : Int32} {bks plot ppc pmk w : Nat → Int32} {o : Nat → Int64} (hD : QD tod prods lan pos rom gp plc lcn ocn w) (hP : QP plc rom lcn plot ppc pmk w) (hB : QB bks w) :
    ∃ k o' b, f_W_book v1 bks plc ppc o = some (k, o') ∧ f_Y8_book v1 c w = some (b, k) ∧ (k = 0 → o' 0 = b.toInt64) := by
  obtain ⟨d0, d1, d2, d3, d4, d5, d6, d7, d8, d9, d10, d11, d12, d13, d14, d15, d16, d17, d18, d19, d20, d21, d22, d23, d24, d25, d26⟩ := hD
  have hw : w 1 * w 2 = plc := by rw [d3, d6, d15]
  unfold f_W_book f_X7_book f_Y8_book
  simp only [bnd1, bnd2, Option.bind_some, n_can, n_in, n_range]
  by_cases h1 : 0 ≤ v1 ∧ v1 ≤ 6
  · obtain ⟨r1, s1, s2⟩ := s_all hw d16 d17 hP
    simp only [if_pos h1, mx, s1, s2, Option.bind_some]
    by_cases c0 : v1 = 6
    · simp only [if_pos c0]; exact cl_ok rfl
    · simp only [if_neg c0]
      rw [gd_6 h1.1 (by grind), gd_2450 (by grind) (by grind)]
      exact cl_ok (hB v1 h1.1 (by grind)).symm
  · simp only [if_neg h1, mx, String.reduceEq, ↓reduceIte, Option.bind_some]
    exact cl_no (by decide)
theorem p_stock {tod prods lan pos rom gp plc lcn ocn v1 c : Int32} {plot ppc pmk lpr lla lco lst rest w : Nat → Int32} {o : Nat → Int64} (hD : QD tod prods lan pos rom gp plc lcn ocn w) (hP : QP plc rom lcn plot ppc pmk w) (hL : QL lcn prods lpr lla lco lst w) :
    ∃ k rest' o' b, f_W_stock v1 prods plc plot ppc lcn lpr rest o = some (k, rest', o') ∧ f_Y8_stock v1 c w = some (b, k) ∧ (k = 0 → o' 0 = b.toInt64) := by
  obtain ⟨d0, d1, d2, d3, d4, d5, d6, d7, d8, d9, d10, d11, d12, d13, d14, d15, d16, d17, d18, d19, d20, d21, d22, d23, d24, d25, d26⟩ := hD
  have hw : w 1 * w 2 = plc := by rw [d3, d6, d15]
  have e8 : f_Y8_isProduct v1 w = _ := n_isProduct v1 w (by grind) (by grind)
  unfold f_W_stock f_X7_stock f_Y8_stock
  rw [n_needProduct, e8, d18]
  simp only [bnd1, bnd2, Option.bind_some, n_can]
  by_cases h1 : 0 ≤ v1 ∧ v1 < prods
  · obtain ⟨rest', s1, s2⟩ := s_count hw d16 d17 d23 hP rest
    obtain ⟨e, q1, q2, -⟩ := lp_same (f := fun z : Int32 × Int32 => f_X7_stock_L23 v1 prods plc plot ppc lcn lpr rest' z.1 z.2) (g := fun z : Int32 × Int32 => f_Y8_stock_L19 v1 0 w z.1 z.2) (fun z => 0 ≤ z.2 ∧ z.2 ≤ lcn) (fun _ => True) (fun z => msr z.2 lcn) (by
      rintro ⟨a, n⟩ ⟨g1, g2⟩
      dsimp only at g1 g2 ⊢
      unfold f_X7_stock_L23 f_Y8_stock_L19
      rw [gd_2450 (by decide) (by decide), show ((6 : Int32).toNatClampNeg) = 6 from rfl, d21]
      by_cases hn : lcn ≤ n
      · exact Or.inr ⟨a, by rw [if_pos hn], by rw [if_pos hn], trivial⟩
      · left
        have hn' : n < lcn := by grind
        obtain ⟨a1, a2, a3, -⟩ := hL n g1 hn'
        have a4 := s2 n g1 (by grind)
        refine ⟨(if ix lpr n = v1 then a + ix rest' n else a, n + 1), ?_, ?_, ?_, msr_lt hn'⟩
        · rw [if_neg hn, gd_24 g1 (by grind), gd_24 g1 (by grind)]
          unfold f_X7_stock_L23_J62; grind
        · rw [if_neg hn, gd_2450 (by grind) (by grind), a4]
          unfold f_Y8_stock_L19_J54
          simp only [bnd1, Option.bind_some, Int32.add_zero]; grind
        · dsimp only; grind) fu (0, 0) ⟨by decide, by dsimp only; grind⟩ (msr_fu (by decide) (by grind))
    simp only [if_pos h1, mx, s1, Option.bind_some]
    rw [if_neg (by decide), q1, q2]
    simp only [Option.bind_some]
    exact ⟨0, rest', _, e, gd_1 (by decide) (by decide), rfl, fun _ => rfl⟩
  · simp only [if_neg h1, mx, String.reduceEq, ↓reduceIte, Option.bind_some]
    exact ⟨1, rest, o, 0, rfl, rfl, fun z => absurd z (by decide)⟩
