/-! ===== sums that both sides make ===== -/
theorem s_onHand {plc rom lcn : Int32} {plot ppc pmk w : Nat → Int32} {l : Int32} (hw : w 1 * w 2 = plc) (h1 : 1 ≤ plc) (h2 : plc ≤ 48) (hP : QP plc rom lcn plot ppc pmk w) (hl : 0 ≤ l) : ∃ e, f_X5_piecesOf l plc plot ppc = some e ∧ f_Y8_onHand l w = some e := by
  obtain ⟨e, q1, q2, -⟩ := lp_same (f := fun z : Int32 × Int32 => f_X5_piecesOf_L4 l plc plot ppc z.1 z.2) (g := fun z : Int32 × Int32 => f_Y8_onHand_L4 l w z.1 z.2) (fun z => 0 ≤ z.2 ∧ z.2 ≤ plc) (fun _ => True) (fun z => msr z.2 plc) (by
    rintro ⟨a, n⟩ ⟨g1, g2⟩
    dsimp only at g1 g2 ⊢
    unfold f_X5_piecesOf_L4 f_Y8_onHand_L4
    rw [n_places, hw]
    simp only [bnd1, Option.bind_some]
    by_cases hn : plc ≤ n
    · exact Or.inr ⟨a, by rw [if_pos hn], by rw [if_pos hn], trivial⟩
    · left
      have hn' : n < plc := by grind
      obtain ⟨e1, e2, e3, p1, p2, p3⟩ := hP n g1 hn'
      refine ⟨(if 1 ≤ ix ppc n ∧ ix plot n = l then a + ix ppc n else a, n + 1), ?_, ?_, ?_, msr_lt hn'⟩
      · rw [if_neg hn, n_isWith n l plc plot ppc h2 g1 hn']
        simp only [Option.bind_some]
        unfold f_X5_piecesOf_L4_J30
        rw [gd_48 g1 (by grind)]
        grind
      · rw [if_neg hn, gd_2450 (by grind) (by grind), gd_2450 (by grind) (by grind)]
        unfold f_Y8_onHand_L4_J39
        simp only [Int32.add_zero]
        grind
      · dsimp only; grind) fu (0, 0) ⟨by decide, by grind⟩ (msr_fu (by decide) (by grind))
  exact ⟨e, by unfold f_X5_piecesOf; rw [q1]; rfl, by unfold f_Y8_onHand; rw [q2]; rfl⟩
theorem s_with {ocn lcn l : Int32} {oha w : Nat → Int32} (hw : w 7 = ocn) (h1 : 0 ≤ ocn) (h2 : ocn ≤ 40) (hH : QH ocn lcn oha w) (hl : 0 ≤ l) (hl2 : l < 24) : ∃ e, f_X2_piecesOutOf l ocn oha = some e ∧ f_Y8_withCustomers l w = some e := by
  obtain ⟨e, q1, q2, -⟩ := lp_same (f := fun z : Int32 × Int32 => f_X2_piecesOutOf_L4 l ocn oha z.1 z.2) (g := fun z : Int32 × Int32 => f_Y8_withCustomers_L4 l w z.1 z.2) (fun z => 0 ≤ z.2 ∧ z.2 ≤ ocn) (fun _ => True) (fun z => msr z.2 ocn) (by
    rintro ⟨a, n⟩ ⟨g1, g2⟩
    dsimp only at g1 g2 ⊢
    unfold f_X2_piecesOutOf_L4 f_Y8_withCustomers_L4
    rw [gd_2450 (by decide) (by decide), show ((7 : Int32).toNatClampNeg) = 7 from rfl, hw]
    simp only [bnd1]
    by_cases hn : ocn ≤ n
    · exact Or.inr ⟨a, by rw [if_pos hn], by rw [if_pos hn], trivial⟩
    · left
      have hn' : n < ocn := by grind
      obtain ⟨e1, -⟩ := hH n l g1 hn' hl hl2
      refine ⟨(a + ix oha (n * 24 + l), n + 1), ?_, ?_, ?_, msr_lt hn'⟩
      · rw [if_neg hn, n_piecesOf n l ocn oha h2 g1 hn' hl hl2]; rfl
      · rw [if_neg hn, n_has n l w g1 (by grind) hl hl2, e1]; rfl
      · dsimp only; grind) fu (0, 0) ⟨by decide, by grind⟩ (msr_fu (by decide) (by grind))
  exact ⟨e, by unfold f_X2_piecesOutOf; rw [q1]; rfl, by unfold f_Y8_withCustomers; rw [q2]; rfl⟩
