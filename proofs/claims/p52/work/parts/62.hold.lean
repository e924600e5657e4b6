theorem L_at0 {o : Nat → Int64} {v : Int64} : vp_updL o (0 : Int32).toNatClampNeg v (0 : Int32).toNatClampNeg = v := rfl
set_option maxRecDepth 4000 in
theorem cs_7 (PL : (Nat → Int32) → (Nat → Int32) → (Nat → Int32) → (Nat → Int64) → (Nat → Int64) → (Nat → Int32) → Prop) (cp1_acts : Int32) (cp1_nextSlot : Int32) (cp1_now_today : Int32) (cp1_now_products : Int32) (cp1_now_itemCount : Int32) (cp1_now_items : Nat → Int32) (cp1_now_books : Nat → Int32) (cp1_now_terms : Nat → Int32) (cp1_now_shelves_lanes : Int32) (cp1_now_shelves_positions : Int32) (cp1_now_shelves_room : Int32) (cp1_now_shelves_gap : Int32) (cp1_now_shelves_places : Int32) (cp1_now_shelves_picked : Int64) (cp1_now_shelves_lot : Nat → Int32) (cp1_now_shelves_pieces : Nat → Int32) (cp1_now_shelves_mark : Nat → Int32) (cp1_now_shelves_byDistance : Nat → Int32) (cp1_now_lots_count : Int32) (cp1_now_lots_product : Nat → Int32) (cp1_now_lots_last : Nat → Int32) (cp1_now_lots_cost : Nat → Int32) (cp1_now_lots_state : Nat → Int32) (cp1_now_lots_byLast : Nat → Int32) (cp1_now_orders_count : Int32) (cp1_now_orders_gifts : Int32) (cp1_now_orders_customer : Nat → Int32) (cp1_now_orders_product : Nat → Int32) (cp1_now_orders_open : Nat → Int32) (cp1_now_orders_due : Nat → Int32) (cp1_now_orders_life : Nat → Int32) (cp1_now_orders_byDue : Nat → Int32) (cp1_now_orders_had : Nat → Int32) (cp1_now_orders_stamps : Nat → Int32) (cp1_hk : Nat) (cp1_st : Nat → StT) (cp1_plan_terms : Nat → Int32) (cp1_plan_low : Nat → Int32) (cp1_plan_high : Nat → Int32) (cp1_plan_bottom : Nat → Int64) (cp1_plan_cost : Nat → Int64) (cp1_plan_act : Nat → Int32) (cp1_picker_deepest : Int32) (cp1_picker_shallowest : Int32) (cp1_picker_widest : Int32) (cp1_picker_least : Nat → Int32) (cp1_picker_next : Nat → Int32) (cp1_rest : Nat → Int32) (cp1_packed : Nat → Int32) (cp2_raised : Int32) (cp2_undos : Int32) (cp2_eldest : Int32) (cp2_w : Nat → Int32) (cp2_kept : Nat → Int32) (cp2_copy : Nat → Int32) (cp2_near : Nat → Int32) (cp2_isDone : Nat → Int32) (cp2_lane : Nat → Int32) (cp2_position : Nat → Int32) (cp2_least : Nat → Int32) (cp2_boxesOf : Nat → Int32) (cp2_staying : Nat → Int64) (cp2_planned : Nat → Int64) (cp2_scale : Nat → Int64) (cp3 : Nat → Int64) (v1 v2 v3 v4 v5 : Int32) (hR : RC PL (cp1_now_today, cp1_now_products, cp1_now_itemCount, cp1_now_items, cp1_now_books, cp1_now_terms, cp1_now_shelves_lanes, cp1_now_shelves_positions, cp1_now_shelves_room, cp1_now_shelves_gap, cp1_now_shelves_places, cp1_now_shelves_picked, cp1_now_shelves_lot, cp1_now_shelves_pieces, cp1_now_shelves_mark, cp1_now_shelves_byDistance, cp1_now_lots_count, cp1_now_lots_product, cp1_now_lots_last, cp1_now_lots_cost, cp1_now_lots_state, cp1_now_lots_byLast, cp1_now_orders_count, cp1_now_orders_gifts, cp1_now_orders_customer, cp1_now_orders_product, cp1_now_orders_open, cp1_now_orders_due, cp1_now_orders_life, cp1_now_orders_byDue, cp1_now_orders_had, cp1_now_orders_stamps) cp2_w cp2_near cp1_acts cp1_nextSlot cp1_hk cp1_st cp2_undos cp2_eldest cp2_kept cp1_plan_terms cp1_plan_low cp1_plan_high cp1_plan_bottom cp1_plan_cost cp1_plan_act) : ∃ z', f_c7 v1 v2 v3 v4 v5 (cp1_acts, cp1_nextSlot, cp1_now_today, cp1_now_products, cp1_now_itemCount, cp1_now_items, cp1_now_books, cp1_now_terms, cp1_now_shelves_lanes, cp1_now_shelves_positions, cp1_now_shelves_room, cp1_now_shelves_gap, cp1_now_shelves_places, cp1_now_shelves_picked, cp1_now_shelves_lot, cp1_now_shelves_pieces, cp1_now_shelves_mark, cp1_now_shelves_byDistance, cp1_now_lots_count, cp1_now_lots_product, cp1_now_lots_last, cp1_now_lots_cost, cp1_now_lots_state, cp1_now_lots_byLast, cp1_now_orders_count, cp1_now_orders_gifts, cp1_now_orders_customer, cp1_now_orders_product, cp1_now_orders_open, cp1_now_orders_due, cp1_now_orders_life, cp1_now_orders_byDue, cp1_now_orders_had, cp1_now_orders_stamps, cp1_hk, cp1_st, cp1_plan_terms, cp1_plan_low, cp1_plan_high, cp1_plan_bottom, cp1_plan_cost, cp1_plan_act, cp1_picker_deepest, cp1_picker_shallowest, cp1_picker_widest, cp1_picker_least, cp1_picker_next, cp1_rest, cp1_packed, cp2_raised, cp2_undos, cp2_eldest, cp2_w, cp2_kept, cp2_copy, cp2_near, cp2_isDone, cp2_lane, cp2_position, cp2_least, cp2_boxesOf, cp2_staying, cp2_planned, cp2_scale, cp3) = some z' ∧ R PL z' := by
  have hS := hR.1
  rw [RS_mk] at hS
  obtain ⟨a1, a2, a3, a4, a5, a6, a7, a8, a9, a10, a11, a12, a13, a14, a15⟩ := hS
  have a0 := a1
  obtain ⟨d0, d1, d2, d3, d4, d5, d6, d7, d8, d9, d10, d11, d12, d13, d14, d15, d16, d17, d18, d19, d20, d21, d22, d23, d24, d25, d26⟩ := a0
  obtain ⟨a', ns', hk', st', u', e', k', m1, m2, m3⟩ := remember_keep hR.1 hR.2.2.1
  have m1 : f_X7_remember cp1_acts cp1_nextSlot cp1_hk cp1_st cp1_now_today cp1_now_products cp1_now_itemCount cp1_now_items cp1_now_books cp1_now_terms cp1_now_shelves_lanes cp1_now_shelves_positions cp1_now_shelves_room cp1_now_shelves_gap cp1_now_shelves_places cp1_now_shelves_picked cp1_now_shelves_lot cp1_now_shelves_pieces cp1_now_shelves_mark cp1_now_shelves_byDistance cp1_now_lots_count cp1_now_lots_product cp1_now_lots_last cp1_now_lots_cost cp1_now_lots_state cp1_now_lots_byLast cp1_now_orders_count cp1_now_orders_gifts cp1_now_orders_customer cp1_now_orders_product cp1_now_orders_open cp1_now_orders_due cp1_now_orders_life cp1_now_orders_byDue cp1_now_orders_had cp1_now_orders_stamps = some (a', ns', hk', st') := m1
  have e7 : f_X7_needLot v1 cp1_now_lots_count = _ := n_needLot v1 cp1_now_lots_count d23
  have e8 : f_Y8_isLot v1 cp2_w = _ := n_isLot v1 cp2_w (by rw [d21]; exact d22) (by rw [d21]; exact d23)
  rw [d21] at e8
  by_cases hv : v2 = 0
  · skip
    by_cases c1 : 0 ≤ v1 ∧ v1 < cp1_now_lots_count
    rotate_left
    · skip
      have h1 : f_W_hold v1 0 cp1_acts cp1_nextSlot cp1_hk cp1_st cp1_now_today cp1_now_products cp1_now_itemCount cp1_now_items cp1_now_books cp1_now_terms cp1_now_shelves_lanes cp1_now_shelves_positions cp1_now_shelves_room cp1_now_shelves_gap cp1_now_shelves_places cp1_now_shelves_picked cp1_now_shelves_lot cp1_now_shelves_pieces cp1_now_shelves_mark cp1_now_shelves_byDistance cp1_now_lots_count cp1_now_lots_product cp1_now_lots_last cp1_now_lots_cost cp1_now_lots_state cp1_now_lots_byLast cp1_now_orders_count cp1_now_orders_gifts cp1_now_orders_customer cp1_now_orders_product cp1_now_orders_open cp1_now_orders_due cp1_now_orders_life cp1_now_orders_byDue cp1_now_orders_had cp1_now_orders_stamps cp3 = some (1, cp1_acts, cp1_nextSlot, cp1_hk, cp1_st, cp1_now_lots_state, cp3) := by
        unfold f_W_hold f_X7_hold
        rw [e7, if_neg c1]
        simp only [bnd1, bnd6, Option.bind_some, mx, ↓reduceIte]
      have h2 : f_Y8_hold v1 0 cp2_raised cp2_undos cp2_eldest cp2_w cp2_kept = some (0, 1, cp2_undos, cp2_eldest, cp2_w, cp2_kept) := by
        unfold f_Y8_hold
        rw [e8, if_neg c1]
        simp only [bnd1, bnd2, Option.bind_some, can_f0, ↓reduceIte]
      refine ⟨?wa0, ?pa0, ?qa0⟩
      case pa0 =>
        rw [fc_7, if_pos hv, h1]
        simp only [bnd7, Option.bind_some]
        rw [if_pos hv]
        rw [h2]
        simp only [bnd1, bnd6, Option.bind_some, f_Y8_thrown]
        exact fin_1 (show ¬ (1 : Int32) = 0 by decide)
      case qa0 =>
        rw [R_mk]
        exact hR
    have q1 := c1.1
    have q2 := c1.2
    obtain ⟨b1, b2, b3, b4, b5, b6, b7, b8, b9, b10, b11, b12⟩ := a5 v1 q1 q2
    have b10' : cp2_w (279 + v1).toNatClampNeg = ix cp1_now_lots_state v1 := b10
    have bs : cp1_now_lots_state v1.toNatClampNeg = ix cp1_now_lots_state v1 := rfl
    by_cases c2 : ix cp1_now_lots_state v1 = 2
    · skip
      have h1 : f_W_hold v1 0 cp1_acts cp1_nextSlot cp1_hk cp1_st cp1_now_today cp1_now_products cp1_now_itemCount cp1_now_items cp1_now_books cp1_now_terms cp1_now_shelves_lanes cp1_now_shelves_positions cp1_now_shelves_room cp1_now_shelves_gap cp1_now_shelves_places cp1_now_shelves_picked cp1_now_shelves_lot cp1_now_shelves_pieces cp1_now_shelves_mark cp1_now_shelves_byDistance cp1_now_lots_count cp1_now_lots_product cp1_now_lots_last cp1_now_lots_cost cp1_now_lots_state cp1_now_lots_byLast cp1_now_orders_count cp1_now_orders_gifts cp1_now_orders_customer cp1_now_orders_product cp1_now_orders_open cp1_now_orders_due cp1_now_orders_life cp1_now_orders_byDue cp1_now_orders_had cp1_now_orders_stamps cp3 = some (2, cp1_acts, cp1_nextSlot, cp1_hk, cp1_st, cp1_now_lots_state, cp3) := by
        unfold f_W_hold f_X7_hold
        rw [e7, if_pos c1]
        simp only [bnd1, bnd6, Option.bind_some, mx]
        rw [gd_24 q1 (by clear hR m1 m2 m3; grind), bs, if_pos c2]
        unfold f_X7_hold_J26
        simp only [bnd1, n_needState, Option.bind_some, mx, ↓reduceIte, String.reduceEq]
      have h2 : f_Y8_hold v1 0 cp2_raised cp2_undos cp2_eldest cp2_w cp2_kept = some (0, 2, cp2_undos, cp2_eldest, cp2_w, cp2_kept) := by
        unfold f_Y8_hold
        rw [e8, if_pos c1]
        simp only [bnd1, bnd2, Option.bind_some, can_t, if_neg one_ne]
        rw [gd_2450 (by clear hR m1 m2 m3; grind) (by clear hR m1 m2 m3; grind), b10', if_pos c2]
        unfold f_Y8_hold_J33
        simp only [bnd2, can_f0, Option.bind_some, ↓reduceIte]
      refine ⟨?wb0, ?pb0, ?qb0⟩
      case pb0 =>
        rw [fc_7, if_pos hv, h1]
        simp only [bnd7, Option.bind_some]
        rw [if_pos hv]
        rw [h2]
        simp only [bnd1, bnd6, Option.bind_some, f_Y8_thrown]
        exact fin_1 (show ¬ (2 : Int32) = 0 by decide)
      case qb0 =>
        rw [R_mk]
        exact hR
    have hAG : ∀ A B : Int32, 0 ≤ A → (B ≤ 279 ∨ 303 ≤ A) → AG A B cp2_w (upd cp2_w (279 + v1).toNatClampNeg 0) := fun A B hA h => AG.rf.up hA (by clear hR m1 m2 m3; grind) (by clear hR m1 m2 m3; grind)
    have q5 : QL cp1_now_lots_count cp1_now_products cp1_now_lots_product cp1_now_lots_last cp1_now_lots_cost (upd cp1_now_lots_state v1.toNatClampNeg 0) (upd cp2_w (279 + v1).toNatClampNeg 0) := by
      intro n n1 n2
      obtain ⟨g1, g2, g3, g4, g5, g6, g7, g8, g9, g10, g11, g12⟩ := a5 n n1 n2
      refine ⟨?_, g2, g3, ?_, g5, g6, ?_, g8, g9, ?_, ?_, ?_⟩
      · unfold ix; rw [upd_ne (by clear hR m1 m2 m3; grind) (by clear hR m1 m2 m3; grind) (by clear hR m1 m2 m3; grind)]; exact g1
      · unfold ix; rw [upd_ne (by clear hR m1 m2 m3; grind) (by clear hR m1 m2 m3; grind) (by clear hR m1 m2 m3; grind)]; exact g4
      · unfold ix; rw [upd_ne (by clear hR m1 m2 m3; grind) (by clear hR m1 m2 m3; grind) (by clear hR m1 m2 m3; grind)]; exact g7
      · unfold ix
        by_cases hn : n = v1
        · subst hn; rw [upd_same, upd_same]
        · rw [upd_ne (by clear hR m1 m2 m3; grind) (by clear hR m1 m2 m3; grind) (by clear hR m1 m2 m3; grind), upd_ne (by clear hR m1 m2 m3; grind) (by clear hR m1 m2 m3; grind) (by clear hR m1 m2 m3; grind)]; exact g10
      · unfold ix
        by_cases hn : n = v1
        · subst hn; rw [upd_same]; decide
        · rw [upd_ne (by clear hR m1 m2 m3; grind) (by clear hR m1 m2 m3; grind) (by clear hR m1 m2 m3; grind)]; exact g11
      · unfold ix
        by_cases hn : n = v1
        · subst hn; rw [upd_same]; decide
        · rw [upd_ne (by clear hR m1 m2 m3; grind) (by clear hR m1 m2 m3; grind) (by clear hR m1 m2 m3; grind)]; exact g12
    by_cases c3 : ix cp1_now_lots_state v1 = 1
    · skip
      have h1 : f_W_hold v1 0 cp1_acts cp1_nextSlot cp1_hk cp1_st cp1_now_today cp1_now_products cp1_now_itemCount cp1_now_items cp1_now_books cp1_now_terms cp1_now_shelves_lanes cp1_now_shelves_positions cp1_now_shelves_room cp1_now_shelves_gap cp1_now_shelves_places cp1_now_shelves_picked cp1_now_shelves_lot cp1_now_shelves_pieces cp1_now_shelves_mark cp1_now_shelves_byDistance cp1_now_lots_count cp1_now_lots_product cp1_now_lots_last cp1_now_lots_cost cp1_now_lots_state cp1_now_lots_byLast cp1_now_orders_count cp1_now_orders_gifts cp1_now_orders_customer cp1_now_orders_product cp1_now_orders_open cp1_now_orders_due cp1_now_orders_life cp1_now_orders_byDue cp1_now_orders_had cp1_now_orders_stamps cp3 = some (0, a', ns', hk', st', upd cp1_now_lots_state v1.toNatClampNeg 0, vp_updL cp3 (0 : Int32).toNatClampNeg 1) := by
        unfold f_W_hold f_X7_hold
        rw [e7, if_pos c1]
        simp only [bnd1, bnd6, Option.bind_some, mx]
        rw [gd_24 q1 (by clear hR m1 m2 m3; grind), bs, if_neg c2]
        unfold f_X7_hold_J26
        simp only [bnd1, bnd4, n_needState, Option.bind_some, mx, if_neg one_ne]
        rw [m1]
        simp only [Option.bind_some]
        rw [gd_24 q1 (by clear hR m1 m2 m3; grind), bs, if_pos c3]
        unfold f_X7_hold_J54 f_X7_hold_J75
        rw [if_pos rfl, gd_24 q1 (by clear hR m1 m2 m3; grind), gb_ok (Or.inr rfl)]
        simp only [Option.bind_some]
        rw [if_neg one_ne]
        unfold f_W_hold_J16
        rw [gd_1 (by decide) (by decide)]
      have h2 : f_Y8_hold v1 0 cp2_raised cp2_undos cp2_eldest cp2_w cp2_kept = some (1, 0, u', e', upd cp2_w (279 + v1).toNatClampNeg 0, k') := by
        unfold f_Y8_hold
        rw [e8, if_pos c1]
        simp only [bnd1, bnd2, Option.bind_some, can_t, if_neg one_ne]
        rw [gd_2450 (by clear hR m1 m2 m3; grind) (by clear hR m1 m2 m3; grind), b10', if_neg c2]
        unfold f_Y8_hold_J33
        simp only [bnd2, bnd3, can_t, Option.bind_some, if_neg one_ne]
        rw [m2]
        simp only [Option.bind_some]
        rw [gd_2450 (by clear hR m1 m2 m3; grind) (by clear hR m1 m2 m3; grind), b10', if_pos c3]
        unfold f_Y8_hold_J65 f_Y8_hold_J84
        rw [if_pos rfl, gd_2450 (by clear hR m1 m2 m3; grind) (by clear hR m1 m2 m3; grind), gb_ok (Or.inr rfl)]
      refine ⟨?wd0, ?pd0, ?qd0⟩
      case pd0 =>
        rw [fc_7, if_pos hv, h1]
        simp only [bnd7, Option.bind_some]
        rw [if_pos hv]
        rw [h2]
        simp only [bnd1, bnd6, Option.bind_some, f_Y8_thrown]
        rw [if_pos trivial, if_pos trivial, gd_1 (by decide) (by decide), if_neg one_ne, L_at0, if_pos (by decide)]
      case qd0 =>
        rw [R_mk]
        refine ⟨?_, hR.2.1, m3, hR.2.2.2⟩
        rw [RS_mk]
        exact ⟨QD_ag (hAG _ _ (by decide) (by decide)) a1, QB_ag (hAG _ _ (by decide) (by decide)) a2, QP_ag d17 (hAG _ _ (by decide) (by decide)) a3, QK_ag (hAG _ _ (by decide) (by decide)) a4, q5, a6, QO_ag d26 (hAG _ _ (by decide) (by decide)) a7, a8, QH_ag d26 (hAG _ _ (by decide) (by decide)) a9, QG_ag d25 d26 (hAG _ _ (by decide) (by decide)) (hAG _ _ (by decide) (by decide)) a10, a11, QI_ag (hAG _ _ (by decide) (by decide)) a12, QT_ag (hAG _ _ (by decide) (by decide)) a13, a14, a15⟩
    · skip
      have h1 : f_W_hold v1 0 cp1_acts cp1_nextSlot cp1_hk cp1_st cp1_now_today cp1_now_products cp1_now_itemCount cp1_now_items cp1_now_books cp1_now_terms cp1_now_shelves_lanes cp1_now_shelves_positions cp1_now_shelves_room cp1_now_shelves_gap cp1_now_shelves_places cp1_now_shelves_picked cp1_now_shelves_lot cp1_now_shelves_pieces cp1_now_shelves_mark cp1_now_shelves_byDistance cp1_now_lots_count cp1_now_lots_product cp1_now_lots_last cp1_now_lots_cost cp1_now_lots_state cp1_now_lots_byLast cp1_now_orders_count cp1_now_orders_gifts cp1_now_orders_customer cp1_now_orders_product cp1_now_orders_open cp1_now_orders_due cp1_now_orders_life cp1_now_orders_byDue cp1_now_orders_had cp1_now_orders_stamps cp3 = some (0, a', ns', hk', st', upd cp1_now_lots_state v1.toNatClampNeg 0, vp_updL cp3 (0 : Int32).toNatClampNeg 0) := by
        unfold f_W_hold f_X7_hold
        rw [e7, if_pos c1]
        simp only [bnd1, bnd6, Option.bind_some, mx]
        rw [gd_24 q1 (by clear hR m1 m2 m3; grind), bs, if_neg c2]
        unfold f_X7_hold_J26
        simp only [bnd1, bnd4, n_needState, Option.bind_some, mx, if_neg one_ne]
        rw [m1]
        simp only [Option.bind_some]
        rw [gd_24 q1 (by clear hR m1 m2 m3; grind), bs, if_neg c3]
        unfold f_X7_hold_J54 f_X7_hold_J75
        rw [if_pos rfl, gd_24 q1 (by clear hR m1 m2 m3; grind), gb_ok (Or.inl rfl)]
        simp only [Option.bind_some]
        rw [if_pos trivial]
        unfold f_W_hold_J16
        rw [gd_1 (by decide) (by decide)]
      have h2 : f_Y8_hold v1 0 cp2_raised cp2_undos cp2_eldest cp2_w cp2_kept = some (0, 0, u', e', upd cp2_w (279 + v1).toNatClampNeg 0, k') := by
        unfold f_Y8_hold
        rw [e8, if_pos c1]
        simp only [bnd1, bnd2, Option.bind_some, can_t, if_neg one_ne]
        rw [gd_2450 (by clear hR m1 m2 m3; grind) (by clear hR m1 m2 m3; grind), b10', if_neg c2]
        unfold f_Y8_hold_J33
        simp only [bnd2, bnd3, can_t, Option.bind_some, if_neg one_ne]
        rw [m2]
        simp only [Option.bind_some]
        rw [gd_2450 (by clear hR m1 m2 m3; grind) (by clear hR m1 m2 m3; grind), b10', if_neg c3]
        unfold f_Y8_hold_J65 f_Y8_hold_J84
        rw [if_pos rfl, gd_2450 (by clear hR m1 m2 m3; grind) (by clear hR m1 m2 m3; grind), gb_ok (Or.inl rfl)]
      refine ⟨?wc0, ?pc0, ?qc0⟩
      case pc0 =>
        rw [fc_7, if_pos hv, h1]
        simp only [bnd7, Option.bind_some]
        rw [if_pos hv]
        rw [h2]
        simp only [bnd1, bnd6, Option.bind_some, f_Y8_thrown]
        rw [if_pos trivial, if_pos trivial, gd_1 (by decide) (by decide), if_pos trivial, L_at0, if_pos (by decide)]
      case qc0 =>
        rw [R_mk]
        refine ⟨?_, hR.2.1, m3, hR.2.2.2⟩
        rw [RS_mk]
        exact ⟨QD_ag (hAG _ _ (by decide) (by decide)) a1, QB_ag (hAG _ _ (by decide) (by decide)) a2, QP_ag d17 (hAG _ _ (by decide) (by decide)) a3, QK_ag (hAG _ _ (by decide) (by decide)) a4, q5, a6, QO_ag d26 (hAG _ _ (by decide) (by decide)) a7, a8, QH_ag d26 (hAG _ _ (by decide) (by decide)) a9, QG_ag d25 d26 (hAG _ _ (by decide) (by decide)) (hAG _ _ (by decide) (by decide)) a10, a11, QI_ag (hAG _ _ (by decide) (by decide)) a12, QT_ag (hAG _ _ (by decide) (by decide)) a13, a14, a15⟩
  · skip
    by_cases c1 : 0 ≤ v1 ∧ v1 < cp1_now_lots_count
    rotate_left
    · skip
      have h1 : f_W_hold v1 1 cp1_acts cp1_nextSlot cp1_hk cp1_st cp1_now_today cp1_now_products cp1_now_itemCount cp1_now_items cp1_now_books cp1_now_terms cp1_now_shelves_lanes cp1_now_shelves_positions cp1_now_shelves_room cp1_now_shelves_gap cp1_now_shelves_places cp1_now_shelves_picked cp1_now_shelves_lot cp1_now_shelves_pieces cp1_now_shelves_mark cp1_now_shelves_byDistance cp1_now_lots_count cp1_now_lots_product cp1_now_lots_last cp1_now_lots_cost cp1_now_lots_state cp1_now_lots_byLast cp1_now_orders_count cp1_now_orders_gifts cp1_now_orders_customer cp1_now_orders_product cp1_now_orders_open cp1_now_orders_due cp1_now_orders_life cp1_now_orders_byDue cp1_now_orders_had cp1_now_orders_stamps cp3 = some (1, cp1_acts, cp1_nextSlot, cp1_hk, cp1_st, cp1_now_lots_state, cp3) := by
        unfold f_W_hold f_X7_hold
        rw [e7, if_neg c1]
        simp only [bnd1, bnd6, Option.bind_some, mx, ↓reduceIte]
      have h2 : f_Y8_hold v1 1 cp2_raised cp2_undos cp2_eldest cp2_w cp2_kept = some (0, 1, cp2_undos, cp2_eldest, cp2_w, cp2_kept) := by
        unfold f_Y8_hold
        rw [e8, if_neg c1]
        simp only [bnd1, bnd2, Option.bind_some, can_f0, ↓reduceIte]
      refine ⟨?wa1, ?pa1, ?qa1⟩
      case pa1 =>
        rw [fc_7, if_neg hv, h1]
        simp only [bnd7, Option.bind_some]
        rw [if_neg hv]
        rw [h2]
        simp only [bnd1, bnd6, Option.bind_some, f_Y8_thrown]
        exact fin_1 (show ¬ (1 : Int32) = 0 by decide)
      case qa1 =>
        rw [R_mk]
        exact hR
    have q1 := c1.1
    have q2 := c1.2
    obtain ⟨b1, b2, b3, b4, b5, b6, b7, b8, b9, b10, b11, b12⟩ := a5 v1 q1 q2
    have b10' : cp2_w (279 + v1).toNatClampNeg = ix cp1_now_lots_state v1 := b10
    have bs : cp1_now_lots_state v1.toNatClampNeg = ix cp1_now_lots_state v1 := rfl
    by_cases c2 : ix cp1_now_lots_state v1 = 2
    · skip
      have h1 : f_W_hold v1 1 cp1_acts cp1_nextSlot cp1_hk cp1_st cp1_now_today cp1_now_products cp1_now_itemCount cp1_now_items cp1_now_books cp1_now_terms cp1_now_shelves_lanes cp1_now_shelves_positions cp1_now_shelves_room cp1_now_shelves_gap cp1_now_shelves_places cp1_now_shelves_picked cp1_now_shelves_lot cp1_now_shelves_pieces cp1_now_shelves_mark cp1_now_shelves_byDistance cp1_now_lots_count cp1_now_lots_product cp1_now_lots_last cp1_now_lots_cost cp1_now_lots_state cp1_now_lots_byLast cp1_now_orders_count cp1_now_orders_gifts cp1_now_orders_customer cp1_now_orders_product cp1_now_orders_open cp1_now_orders_due cp1_now_orders_life cp1_now_orders_byDue cp1_now_orders_had cp1_now_orders_stamps cp3 = some (2, cp1_acts, cp1_nextSlot, cp1_hk, cp1_st, cp1_now_lots_state, cp3) := by
        unfold f_W_hold f_X7_hold
        rw [e7, if_pos c1]
        simp only [bnd1, bnd6, Option.bind_some, mx]
        rw [gd_24 q1 (by clear hR m1 m2 m3; grind), bs, if_pos c2]
        unfold f_X7_hold_J26
        simp only [bnd1, n_needState, Option.bind_some, mx, ↓reduceIte, String.reduceEq]
      have h2 : f_Y8_hold v1 1 cp2_raised cp2_undos cp2_eldest cp2_w cp2_kept = some (0, 2, cp2_undos, cp2_eldest, cp2_w, cp2_kept) := by
        unfold f_Y8_hold
        rw [e8, if_pos c1]
        simp only [bnd1, bnd2, Option.bind_some, can_t, if_neg one_ne]
        rw [gd_2450 (by clear hR m1 m2 m3; grind) (by clear hR m1 m2 m3; grind), b10', if_pos c2]
        unfold f_Y8_hold_J33
        simp only [bnd2, can_f0, Option.bind_some, ↓reduceIte]
      refine ⟨?wb1, ?pb1, ?qb1⟩
      case pb1 =>
        rw [fc_7, if_neg hv, h1]
        simp only [bnd7, Option.bind_some]
        rw [if_neg hv]
        rw [h2]
        simp only [bnd1, bnd6, Option.bind_some, f_Y8_thrown]
        exact fin_1 (show ¬ (2 : Int32) = 0 by decide)
      case qb1 =>
        rw [R_mk]
        exact hR
    have hAG : ∀ A B : Int32, 0 ≤ A → (B ≤ 279 ∨ 303 ≤ A) → AG A B cp2_w (upd cp2_w (279 + v1).toNatClampNeg 1) := fun A B hA h => AG.rf.up hA (by clear hR m1 m2 m3; grind) (by clear hR m1 m2 m3; grind)
    have q5 : QL cp1_now_lots_count cp1_now_products cp1_now_lots_product cp1_now_lots_last cp1_now_lots_cost (upd cp1_now_lots_state v1.toNatClampNeg 1) (upd cp2_w (279 + v1).toNatClampNeg 1) := by
      intro n n1 n2
      obtain ⟨g1, g2, g3, g4, g5, g6, g7, g8, g9, g10, g11, g12⟩ := a5 n n1 n2
      refine ⟨?_, g2, g3, ?_, g5, g6, ?_, g8, g9, ?_, ?_, ?_⟩
      · unfold ix; rw [upd_ne (by clear hR m1 m2 m3; grind) (by clear hR m1 m2 m3; grind) (by clear hR m1 m2 m3; grind)]; exact g1
      · unfold ix; rw [upd_ne (by clear hR m1 m2 m3; grind) (by clear hR m1 m2 m3; grind) (by clear hR m1 m2 m3; grind)]; exact g4
      · unfold ix; rw [upd_ne (by clear hR m1 m2 m3; grind) (by clear hR m1 m2 m3; grind) (by clear hR m1 m2 m3; grind)]; exact g7
      · unfold ix
        by_cases hn : n = v1
        · subst hn; rw [upd_same, upd_same]
        · rw [upd_ne (by clear hR m1 m2 m3; grind) (by clear hR m1 m2 m3; grind) (by clear hR m1 m2 m3; grind), upd_ne (by clear hR m1 m2 m3; grind) (by clear hR m1 m2 m3; grind) (by clear hR m1 m2 m3; grind)]; exact g10
      · unfold ix
        by_cases hn : n = v1
        · subst hn; rw [upd_same]; decide
        · rw [upd_ne (by clear hR m1 m2 m3; grind) (by clear hR m1 m2 m3; grind) (by clear hR m1 m2 m3; grind)]; exact g11
      · unfold ix
        by_cases hn : n = v1
        · subst hn; rw [upd_same]; decide
        · rw [upd_ne (by clear hR m1 m2 m3; grind) (by clear hR m1 m2 m3; grind) (by clear hR m1 m2 m3; grind)]; exact g12
    by_cases c3 : ix cp1_now_lots_state v1 = 1
    · skip
      have h1 : f_W_hold v1 1 cp1_acts cp1_nextSlot cp1_hk cp1_st cp1_now_today cp1_now_products cp1_now_itemCount cp1_now_items cp1_now_books cp1_now_terms cp1_now_shelves_lanes cp1_now_shelves_positions cp1_now_shelves_room cp1_now_shelves_gap cp1_now_shelves_places cp1_now_shelves_picked cp1_now_shelves_lot cp1_now_shelves_pieces cp1_now_shelves_mark cp1_now_shelves_byDistance cp1_now_lots_count cp1_now_lots_product cp1_now_lots_last cp1_now_lots_cost cp1_now_lots_state cp1_now_lots_byLast cp1_now_orders_count cp1_now_orders_gifts cp1_now_orders_customer cp1_now_orders_product cp1_now_orders_open cp1_now_orders_due cp1_now_orders_life cp1_now_orders_byDue cp1_now_orders_had cp1_now_orders_stamps cp3 = some (0, a', ns', hk', st', upd cp1_now_lots_state v1.toNatClampNeg 1, vp_updL cp3 (0 : Int32).toNatClampNeg 1) := by
        unfold f_W_hold f_X7_hold
        rw [e7, if_pos c1]
        simp only [bnd1, bnd6, Option.bind_some, mx]
        rw [gd_24 q1 (by clear hR m1 m2 m3; grind), bs, if_neg c2]
        unfold f_X7_hold_J26
        simp only [bnd1, bnd4, n_needState, Option.bind_some, mx, if_neg one_ne]
        rw [m1]
        simp only [Option.bind_some]
        rw [gd_24 q1 (by clear hR m1 m2 m3; grind), bs, if_pos c3]
        unfold f_X7_hold_J54 f_X7_hold_J75
        rw [if_neg one_ne, gd_24 q1 (by clear hR m1 m2 m3; grind), gb_ok (Or.inr rfl)]
        simp only [Option.bind_some]
        rw [if_neg one_ne]
        unfold f_W_hold_J16
        rw [gd_1 (by decide) (by decide)]
      have h2 : f_Y8_hold v1 1 cp2_raised cp2_undos cp2_eldest cp2_w cp2_kept = some (1, 0, u', e', upd cp2_w (279 + v1).toNatClampNeg 1, k') := by
        unfold f_Y8_hold
        rw [e8, if_pos c1]
        simp only [bnd1, bnd2, Option.bind_some, can_t, if_neg one_ne]
        rw [gd_2450 (by clear hR m1 m2 m3; grind) (by clear hR m1 m2 m3; grind), b10', if_neg c2]
        unfold f_Y8_hold_J33
        simp only [bnd2, bnd3, can_t, Option.bind_some, if_neg one_ne]
        rw [m2]
        simp only [Option.bind_some]
        rw [gd_2450 (by clear hR m1 m2 m3; grind) (by clear hR m1 m2 m3; grind), b10', if_pos c3]
        unfold f_Y8_hold_J65 f_Y8_hold_J84
        rw [if_neg one_ne, gd_2450 (by clear hR m1 m2 m3; grind) (by clear hR m1 m2 m3; grind), gb_ok (Or.inr rfl)]
      refine ⟨?wd1, ?pd1, ?qd1⟩
      case pd1 =>
        rw [fc_7, if_neg hv, h1]
        simp only [bnd7, Option.bind_some]
        rw [if_neg hv]
        rw [h2]
        simp only [bnd1, bnd6, Option.bind_some, f_Y8_thrown]
        rw [if_pos trivial, if_pos trivial, gd_1 (by decide) (by decide), if_neg one_ne, L_at0, if_pos (by decide)]
      case qd1 =>
        rw [R_mk]
        refine ⟨?_, hR.2.1, m3, hR.2.2.2⟩
        rw [RS_mk]
        exact ⟨QD_ag (hAG _ _ (by decide) (by decide)) a1, QB_ag (hAG _ _ (by decide) (by decide)) a2, QP_ag d17 (hAG _ _ (by decide) (by decide)) a3, QK_ag (hAG _ _ (by decide) (by decide)) a4, q5, a6, QO_ag d26 (hAG _ _ (by decide) (by decide)) a7, a8, QH_ag d26 (hAG _ _ (by decide) (by decide)) a9, QG_ag d25 d26 (hAG _ _ (by decide) (by decide)) (hAG _ _ (by decide) (by decide)) a10, a11, QI_ag (hAG _ _ (by decide) (by decide)) a12, QT_ag (hAG _ _ (by decide) (by decide)) a13, a14, a15⟩
    · skip
      have h1 : f_W_hold v1 1 cp1_acts cp1_nextSlot cp1_hk cp1_st cp1_now_today cp1_now_products cp1_now_itemCount cp1_now_items cp1_now_books cp1_now_terms cp1_now_shelves_lanes cp1_now_shelves_positions cp1_now_shelves_room cp1_now_shelves_gap cp1_now_shelves_places cp1_now_shelves_picked cp1_now_shelves_lot cp1_now_shelves_pieces cp1_now_shelves_mark cp1_now_shelves_byDistance cp1_now_lots_count cp1_now_lots_product cp1_now_lots_last cp1_now_lots_cost cp1_now_lots_state cp1_now_lots_byLast cp1_now_orders_count cp1_now_orders_gifts cp1_now_orders_customer cp1_now_orders_product cp1_now_orders_open cp1_now_orders_due cp1_now_orders_life cp1_now_orders_byDue cp1_now_orders_had cp1_now_orders_stamps cp3 = some (0, a', ns', hk', st', upd cp1_now_lots_state v1.toNatClampNeg 1, vp_updL cp3 (0 : Int32).toNatClampNeg 0) := by
        unfold f_W_hold f_X7_hold
        rw [e7, if_pos c1]
        simp only [bnd1, bnd6, Option.bind_some, mx]
        rw [gd_24 q1 (by clear hR m1 m2 m3; grind), bs, if_neg c2]
        unfold f_X7_hold_J26
        simp only [bnd1, bnd4, n_needState, Option.bind_some, mx, if_neg one_ne]
        rw [m1]
        simp only [Option.bind_some]
        rw [gd_24 q1 (by clear hR m1 m2 m3; grind), bs, if_neg c3]
        unfold f_X7_hold_J54 f_X7_hold_J75
        rw [if_neg one_ne, gd_24 q1 (by clear hR m1 m2 m3; grind), gb_ok (Or.inl rfl)]
        simp only [Option.bind_some]
        rw [if_pos trivial]
        unfold f_W_hold_J16
        rw [gd_1 (by decide) (by decide)]
      have h2 : f_Y8_hold v1 1 cp2_raised cp2_undos cp2_eldest cp2_w cp2_kept = some (0, 0, u', e', upd cp2_w (279 + v1).toNatClampNeg 1, k') := by
        unfold f_Y8_hold
        rw [e8, if_pos c1]
        simp only [bnd1, bnd2, Option.bind_some, can_t, if_neg one_ne]
        rw [gd_2450 (by clear hR m1 m2 m3; grind) (by clear hR m1 m2 m3; grind), b10', if_neg c2]
        unfold f_Y8_hold_J33
        simp only [bnd2, bnd3, can_t, Option.bind_some, if_neg one_ne]
        rw [m2]
        simp only [Option.bind_some]
        rw [gd_2450 (by clear hR m1 m2 m3; grind) (by clear hR m1 m2 m3; grind), b10', if_neg c3]
        unfold f_Y8_hold_J65 f_Y8_hold_J84
        rw [if_neg one_ne, gd_2450 (by clear hR m1 m2 m3; grind) (by clear hR m1 m2 m3; grind), gb_ok (Or.inl rfl)]
      refine ⟨?wc1, ?pc1, ?qc1⟩
      case pc1 =>
        rw [fc_7, if_neg hv, h1]
        simp only [bnd7, Option.bind_some]
        rw [if_neg hv]
        rw [h2]
        simp only [bnd1, bnd6, Option.bind_some, f_Y8_thrown]
        rw [if_pos trivial, if_pos trivial, gd_1 (by decide) (by decide), if_pos trivial, L_at0, if_pos (by decide)]
      case qc1 =>
        rw [R_mk]
        refine ⟨?_, hR.2.1, m3, hR.2.2.2⟩
        rw [RS_mk]
        exact ⟨QD_ag (hAG _ _ (by decide) (by decide)) a1, QB_ag (hAG _ _ (by decide) (by decide)) a2, QP_ag d17 (hAG _ _ (by decide) (by decide)) a3, QK_ag (hAG _ _ (by decide) (by decide)) a4, q5, a6, QO_ag d26 (hAG _ _ (by decide) (by decide)) a7, a8, QH_ag d26 (hAG _ _ (by decide) (by decide)) a9, QG_ag d25 d26 (hAG _ _ (by decide) (by decide)) (hAG _ _ (by decide) (by decide)) a10, a11, QI_ag (hAG _ _ (by decide) (by decide)) a12, QT_ag (hAG _ _ (by decide) (by decide)) a13, a14, a15⟩

