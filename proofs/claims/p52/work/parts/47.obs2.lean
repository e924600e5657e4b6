theorem p_stockCost {tod prods lan pos rom gp plc lcn ocn v1 c : Int32} {plot ppc pmk lpr lla lco lst rest w : Nat → Int32} {o : Nat → Int64} (hD : QD tod prods lan pos rom gp plc lcn ocn w) (hP : QP plc rom lcn plot ppc pmk w) (hL : QL lcn prods lpr lla lco lst w) :
    ∃ k rest' o' b, f_W_stockCost v1 prods plc plot ppc lcn lpr lco rest o = some (k, rest', o') ∧ f_Y8_stockCost v1 c w = some (b, k) ∧ (k = 0 → o' 0 = b) := by
  obtain ⟨d0, d1, d2, d3, d4, d5, d6, d7, d8, d9, d10, d11, d12, d13, d14, d15, d16, d17, d18, d19, d20, d21, d22, d23, d24, d25, d26⟩ := hD
  have hw : w 1 * w 2 = plc := by rw [d3, d6, d15]
  have e8 : f_Y8_isProduct v1 w = _ := n_isProduct v1 w (by grind) (by grind)
  unfold f_W_stockCost f_X7_stockCost f_Y8_stockCost
  rw [n_needProduct, e8, d18]
  simp only [bnd1, bnd2, Option.bind_some, n_can]
  by_cases h1 : 0 ≤ v1 ∧ v1 < prods
  · obtain ⟨rest', s1, s2⟩ := s_count hw d16 d17 d23 hP rest
    obtain ⟨e, q1, q2, -⟩ := lp_same (f := fun z : Int64 × Int32 => f_X7_stockCost_L24 v1 prods plc plot ppc lcn lpr lco rest' z.1 z.2) (g := fun z : Int64 × Int32 => f_Y8_stockCost_L20 v1 0 w z.1 z.2) (fun z => 0 ≤ z.2 ∧ z.2 ≤ lcn) (fun _ => True) (fun z => msr z.2 lcn) (by
      rintro ⟨a, n⟩ ⟨g1, g2⟩
      dsimp only at g1 g2 ⊢
      unfold f_X7_stockCost_L24 f_Y8_stockCost_L20
      rw [gd_2450 (by decide) (by decide), show ((6 : Int32).toNatClampNeg) = 6 from rfl, d21]
      by_cases hn : lcn ≤ n
      · exact Or.inr ⟨a, by rw [if_pos hn], by rw [if_pos hn], trivial⟩
      · left
        have hn' : n < lcn := by grind
        obtain ⟨a1, a2, a3, -, -, -, a5, -⟩ := hL n g1 hn'
        have a4 := s2 n g1 (by grind)
        have a6 : w (207 + n).toNatClampNeg = lpr n.toNatClampNeg := a1
        have a7 : w (255 + n).toNatClampNeg = lco n.toNatClampNeg := a5
        refine ⟨(if ix lpr n = v1 then a + (ix lco n).toInt64 * (ix rest' n).toInt64 else a, n + 1), ?_, ?_, ?_, msr_lt hn'⟩
        · rw [if_neg hn, gd_24 g1 (by grind), gd_24 g1 (by grind), gd_24 g1 (by grind)]
          unfold f_X7_stockCost_L24_J82; grind
        · rw [if_neg hn, gd_2450 (by grind) (by grind), a4, a6]
          unfold f_Y8_stockCost_L20_J72
          simp only [bnd1, Option.bind_some, Int64.add_zero]
          rw [gd_2450 (by grind) (by grind), a7]
          by_cases hc : lpr n.toNatClampNeg = v1
          · rw [if_pos hc, if_pos hc, Int64.mul_comm]
          · rw [if_neg hc, if_neg hc]
        · dsimp only; grind) fu (0, 0) ⟨by decide, by dsimp only; grind⟩ (msr_fu (by decide) (by grind))
    simp only [if_pos h1, mx, s1, Option.bind_some]
    rw [if_neg (by decide), q1, q2]
    simp only [Option.bind_some]
    exact ⟨0, rest', _, e, gd_1 (by decide) (by decide), rfl, fun _ => rfl⟩
  · simp only [if_neg h1, mx, String.reduceEq, ↓reduceIte, Option.bind_some]
    exact ⟨1, rest, o, 0, rfl, rfl, fun z => absurd z (by decide)⟩
theorem p_customersOf {tod prods lan pos rom gp plc lcn ocn v1 c : Int32} {ocu opr oop odu oli oha w : Nat → Int32} {o : Nat → Int64} (hD : QD tod prods lan pos rom gp plc lcn ocn w) (hO : QO ocn prods ocu opr oop odu oli w) (hH : QH ocn lcn oha w) :
    ∃ k o' b, f_W_customersOf v1 lcn ocn ocu oha o = some (k, o') ∧ f_Y8_customersOf v1 c w = some (b, k) ∧ (k = 0 → o' 0 = b.toInt64) := by
  obtain ⟨d0, d1, d2, d3, d4, d5, d6, d7, d8, d9, d10, d11, d12, d13, d14, d15, d16, d17, d18, d19, d20, d21, d22, d23, d24, d25, d26⟩ := hD
  have e7 : f_X7_needLot v1 lcn = _ := n_needLot v1 lcn (by grind)
  have e8 : f_Y8_isLot v1 w = _ := n_isLot v1 w (by grind) (by grind)
  unfold f_W_customersOf f_X7_customersOf f_Y8_customersOf
  rw [e7, e8, d21]
  simp only [bnd1, bnd2, Option.bind_some, n_can]
  by_cases h1 : 0 ≤ v1 ∧ v1 < lcn
  · obtain ⟨e, q1, q2, -⟩ := lp_same (f := fun z : Int32 × Int32 => f_X7_customersOf_L9 v1 lcn ocn ocu oha z.1 z.2) (g := fun z : Int32 × Int32 => f_Y8_customersOf_L19 v1 0 w z.1 z.2) (fun z => 0 ≤ z.2 ∧ z.2 ≤ ocn) (fun _ => True) (fun z => msr z.2 ocn) (by
      rintro ⟨a, n⟩ ⟨g1, g2⟩
      dsimp only at g1 g2 ⊢
      unfold f_X7_customersOf_L9 f_Y8_customersOf_L19
      rw [gd_2450 (by decide) (by decide), show ((7 : Int32).toNatClampNeg) = 7 from rfl, d24]
      by_cases hn : ocn ≤ n
      · exact Or.inr ⟨a, by rw [if_pos hn], by rw [if_pos hn], trivial⟩
      · left
        have hn' : n < ocn := by grind
        obtain ⟨a1, -⟩ := hO n g1 hn'
        obtain ⟨b1, -⟩ := hH n v1 g1 hn' h1.1 (by grind)
        have a6 : w (303 + n).toNatClampNeg = ocu n.toNatClampNeg := a1
        refine ⟨(if ix oha (n * 24 + v1) ≤ 0 then a else a ||| (1 <<< (ix ocu n &&& 31)), n + 1), ?_, ?_, ?_, msr_lt hn'⟩
        · rw [if_neg hn, n_piecesOf n v1 ocn oha d26 g1 hn' h1.1 (by grind)]
          unfold f_X7_customersOf_L9_J55
          simp only [bnd1, Option.bind_some]
          rw [gd_40 g1 (by grind)]
          split <;> rfl
        · rw [if_neg hn, n_has n v1 w g1 (by grind) h1.1 (by grind), b1]
          unfold f_Y8_customersOf_L19_J56
          simp only [bnd1, Option.bind_some]
          rw [gd_2450 (by grind) (by grind), a6, Int32.or_zero]
          split <;> rfl
        · dsimp only; grind) fu (0, 0) ⟨by decide, by dsimp only; grind⟩ (msr_fu (by decide) (by grind))
    simp only [if_pos h1, mx, Option.bind_some]
    rw [if_neg (by decide), q1, q2]
    simp only [Option.bind_some]
    exact cl_ok rfl
  · simp only [if_neg h1, mx, String.reduceEq, ↓reduceIte, Option.bind_some]
    exact cl_no (by decide)
theorem p_lotsOf {tod prods lan pos rom gp plc lcn ocn v1 c : Int32} {oha w : Nat → Int32} {o : Nat → Int64} (hD : QD tod prods lan pos rom gp plc lcn ocn w) (hH : QH ocn lcn oha w) :
    ∃ k o' b, f_W_lotsOf v1 lcn ocn oha o = some (k, o') ∧ f_Y8_lotsOf v1 c w = some (b, k) ∧ (k = 0 → o' 0 = b.toInt64) := by
  obtain ⟨d0, d1, d2, d3, d4, d5, d6, d7, d8, d9, d10, d11, d12, d13, d14, d15, d16, d17, d18, d19, d20, d21, d22, d23, d24, d25, d26⟩ := hD
  have e7 : f_X7_needOrder v1 ocn = _ := n_needOrder v1 ocn (by grind)
  have e8 : f_Y8_isOrder v1 w = _ := n_isOrder v1 w (by grind) (by grind)
  unfold f_W_lotsOf f_X7_lotsOf f_Y8_lotsOf
  rw [e7, e8, d24]
  simp only [bnd1, bnd2, Option.bind_some, n_can]
  by_cases h1 : 0 ≤ v1 ∧ v1 < ocn
  · obtain ⟨e, q1, q2, -⟩ := lp_same (f := fun z : Int32 × Int32 => f_X7_lotsOf_L9 v1 lcn ocn oha z.1 z.2) (g := fun z : Int32 × Int32 => f_Y8_lotsOf_L19 v1 0 w z.1 z.2) (fun z => 0 ≤ z.2 ∧ z.2 ≤ lcn) (fun _ => True) (fun z => msr z.2 lcn) (by
      rintro ⟨a, n⟩ ⟨g1, g2⟩
      dsimp only at g1 g2 ⊢
      unfold f_X7_lotsOf_L9 f_Y8_lotsOf_L19
      rw [gd_2450 (by decide) (by decide), show ((6 : Int32).toNatClampNeg) = 6 from rfl, d21]
      by_cases hn : lcn ≤ n
      · exact Or.inr ⟨a, by rw [if_pos hn], by rw [if_pos hn], trivial⟩
      · left
        have hn' : n < lcn := by grind
        obtain ⟨b1, -⟩ := hH v1 n h1.1 h1.2 g1 (by grind)
        refine ⟨(if ix oha (v1 * 24 + n) ≤ 0 then a else a ||| (1 <<< (n &&& 31)), n + 1), ?_, ?_, ?_, msr_lt hn'⟩
        · rw [if_neg hn, n_piecesOf v1 n ocn oha d26 h1.1 h1.2 g1 (by grind)]
          unfold f_X7_lotsOf_L9_J44
          simp only [bnd1, Option.bind_some]
          split <;> rfl
        · rw [if_neg hn, n_has v1 n w h1.1 (by grind) g1 (by grind), b1]
          unfold f_Y8_lotsOf_L19_J47
          simp only [bnd1, Option.bind_some]
          rw [Int32.or_zero]
          split <;> rfl
        · dsimp only; grind) fu (0, 0) ⟨by decide, by dsimp only; grind⟩ (msr_fu (by decide) (by grind))
    simp only [if_pos h1, mx, Option.bind_some]
    rw [if_neg (by decide), q1, q2]
    simp only [Option.bind_some]
    exact cl_ok rfl
  · simp only [if_neg h1, mx, String.reduceEq, ↓reduceIte, Option.bind_some]
    exact cl_no (by decide)
theorem n_wanted {ocn n : Int32} {odu oli : Nat → Int32} (hc : ocn ≤ 40) (h1 : 0 ≤ n) (h2 : n < ocn) : f_X2_wantedDay n ocn odu oli = some (ix odu n + ix oli n) := by
  have hp : 0 ≤ n ∧ n < ocn := ⟨h1, h2⟩
  unfold f_X2_wantedDay
  rw [n_exO n ocn hc, if_pos hp]
  simp only [bnd1, Option.bind_some]
  rw [if_neg (by decide), gd_40 h1 (by grind), gd_40 h1 (by grind)]
theorem n_isFit {lcn n p day : Int32} {lpr lla lst : Nat → Int32} (hc : lcn ≤ 24) (h1 : 0 ≤ n) (h2 : n < lcn) : f_X1_isFit n p day lcn lpr lla lst = some (if ix lpr n = p ∧ ix lst n = 0 ∧ day ≤ ix lla n then 1 else 0) := by
  have hp : 0 ≤ n ∧ n < lcn := ⟨h1, h2⟩
  unfold f_X1_isFit
  rw [n_exL n lcn hc, if_pos hp]
  simp only [bnd1, Option.bind_some]
  rw [if_neg (by decide), gd_24 h1 (by grind), gd_24 h1 (by grind), gd_24 h1 (by grind)]
  grind
theorem s_lack {tod prods lan pos rom gp plc lcn ocn p day : Int32} {plot ppc pmk lpr lla lco lst ocu opr oop odu oli w : Nat → Int32} (hD : QD tod prods lan pos rom gp plc lcn ocn w) (hP : QP plc rom lcn plot ppc pmk w) (hL : QL lcn prods lpr lla lco lst w) (hO : QO ocn prods ocu opr oop odu oli w) (rest : Nat → Int32) :
    ∃ e rest', f_X7_lackAt p day plc plot ppc lcn lpr lla lst ocn opr oop odu oli rest = some (e, rest') ∧ f_Y8_differenceAt p day w = some e := by
  obtain ⟨d0, d1, d2, d3, d4, d5, d6, d7, d8, d9, d10, d11, d12, d13, d14, d15, d16, d17, d18, d19, d20, d21, d22, d23, d24, d25, d26⟩ := hD
  have hw : w 1 * w 2 = plc := by rw [d3, d6, d15]
  obtain ⟨rest', s1, s2⟩ := s_count hw d16 d17 d23 hP rest
  obtain ⟨e, q1, q2, -⟩ := lp_same (f := fun z : Int32 × Int32 => f_X2_openFrom_L5 p day ocn opr oop odu oli z.1 z.2) (g := fun z : Int32 × Int32 => f_Y8_differenceAt_L5 p day w z.1 z.2) (fun z => 0 ≤ z.2 ∧ z.2 ≤ ocn) (fun _ => True) (fun z => msr z.2 ocn) (by
    rintro ⟨a, n⟩ ⟨g1, g2⟩
    dsimp only at g1 g2 ⊢
    unfold f_X2_openFrom_L5 f_Y8_differenceAt_L5
    rw [gd_2450 (by decide) (by decide), show ((7 : Int32).toNatClampNeg) = 7 from rfl, d24]
    by_cases hn : ocn ≤ n
    · exact Or.inr ⟨a, by rw [if_pos hn], by rw [if_pos hn], trivial⟩
    · left
      have hn' : n < ocn := by grind
      obtain ⟨a1, a2, a3, a4, a5, a6, a7, a8, a9, a10, a11, a12, a13, a14, a15⟩ := hO n g1 hn'
      refine ⟨(if ix opr n = p ∧ day ≤ ix odu n + ix oli n then a + ix oop n else a, n + 1), ?_, ?_, ?_, msr_lt hn'⟩
      · rw [if_neg hn, n_wanted d26 g1 hn', gd_40 g1 (by grind), gd_40 g1 (by grind)]
        unfold f_X2_openFrom_L5_J45
        simp only [bnd1, Option.bind_some]; grind
      · rw [if_neg hn, gd_2450 (by grind) (by grind), gd_2450 (by grind) (by grind), gd_2450 (by grind) (by grind)]
        unfold f_Y8_differenceAt_L5_J62 f_Y8_differenceAt_L5_J63
        simp only [Int32.add_zero]; grind
      · dsimp only; grind) fu (0, 0) ⟨by decide, by dsimp only; grind⟩ (msr_fu (by decide) (by grind))
  obtain ⟨e2, q3, q4, -⟩ := lp_same (f := fun z : Int32 × Int32 => f_X7_lackAt_L30 p day plc plot ppc lcn lpr lla lst ocn opr oop odu oli rest' z.1 z.2) (g := fun z : Int32 × Int32 => f_Y8_differenceAt_L74 p day w z.1 z.2) (fun z => 0 ≤ z.2 ∧ z.2 ≤ lcn) (fun _ => True) (fun z => msr z.2 lcn) (by
    rintro ⟨a, n⟩ ⟨g1, g2⟩
    dsimp only at g1 g2 ⊢
    unfold f_X7_lackAt_L30 f_Y8_differenceAt_L74
    rw [gd_2450 (by decide) (by decide), show ((6 : Int32).toNatClampNeg) = 6 from rfl, d21]
    by_cases hn : lcn ≤ n
    · exact Or.inr ⟨a, by rw [if_pos hn], by rw [if_pos hn], trivial⟩
    · left
      have hn' : n < lcn := by grind
      obtain ⟨a1, a2, a3, a4, a5, a6, a7, a8, a9, a10, a11, a12⟩ := hL n g1 hn'
      have b4 := s2 n g1 (by grind)
      refine ⟨(if ix lpr n = p ∧ ix lst n = 0 ∧ day ≤ ix lla n then a - ix rest' n else a, n + 1), ?_, ?_, ?_, msr_lt hn'⟩
      · rw [if_neg hn, n_isFit d23 g1 hn', gd_24 g1 (by grind)]
        unfold f_X7_lackAt_L30_J72
        simp only [bnd1, Option.bind_some]; grind
      · rw [if_neg hn, gd_2450 (by grind) (by grind), gd_2450 (by grind) (by grind), gd_2450 (by grind) (by grind), b4]
        unfold f_Y8_differenceAt_L74_J140 f_Y8_differenceAt_L74_J141
        simp only [bnd1, Option.bind_some, Int32.sub_zero]; grind
      · dsimp only; grind) fu (e, 0) ⟨by dsimp only; decide, by dsimp only; grind⟩ (msr_fu (by dsimp only; decide) (by grind))
  refine ⟨e2, rest', ?_, ?_⟩
  · unfold f_X7_lackAt f_X2_openFrom
    rw [q1]
    simp only [bnd1, Option.bind_some]
    rw [s1]
    simp only [Option.bind_some]
    rw [q3]; rfl
  · unfold f_Y8_differenceAt
    rw [q2]
    simp only [bnd1, Option.bind_some]
    rw [q4]; rfl
theorem p_difference {tod prods lan pos rom gp plc lcn ocn v1 v2 c : Int32} {plot ppc pmk lpr lla lco lst ocu opr oop odu oli rest w : Nat → Int32} {o : Nat → Int64} (hD : QD tod prods lan pos rom gp plc lcn ocn w) (hP : QP plc rom lcn plot ppc pmk w) (hL : QL lcn prods lpr lla lco lst w) (hO : QO ocn prods ocu opr oop odu oli w) :
    ∃ k rest' o' b, f_W_difference v1 v2 prods plc plot ppc lcn lpr lla lst ocn opr oop odu oli rest o = some (k, rest', o') ∧ f_Y8_difference v1 v2 c w = some (b, k) ∧ (k = 0 → o' 0 = b.toInt64) := by
  obtain ⟨e, rest', s1, s2⟩ := s_lack (p := v1) (day := v2) hD hP hL hO rest
  obtain ⟨d0, d1, d2, d3, d4, d5, d6, d7, d8, d9, d10, d11, d12, d13, d14, d15, d16, d17, d18, d19, d20, d21, d22, d23, d24, d25, d26⟩ := hD
  have e8 : f_Y8_isProduct v1 w = _ := n_isProduct v1 w (by grind) (by grind)
  unfold f_W_difference f_X7_difference f_Y8_difference
  rw [n_needProduct, e8, d18]
  simp only [bnd1, bnd2, Option.bind_some, n_can, n_range, n_in]
  by_cases h1 : 0 ≤ v1 ∧ v1 < prods
  · by_cases h2 : 0 ≤ v2 ∧ v2 ≤ 3000
    · simp only [if_pos h1, if_pos h2, mx, s1, s2, Option.bind_some]
      exact ⟨0, rest', _, e, gd_1 (by decide) (by decide), rfl, fun _ => rfl⟩
    · simp only [if_pos h1, if_neg h2, mx, String.reduceEq, ↓reduceIte, Option.bind_some]
      exact ⟨2, rest, o, 0, rfl, rfl, fun z => absurd z (by decide)⟩
  · simp only [if_neg h1, mx, String.reduceEq, ↓reduceIte, Option.bind_some]
    exact ⟨1, rest, o, 0, rfl, rfl, fun z => absurd z (by decide)⟩
