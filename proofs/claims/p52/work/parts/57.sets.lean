set_option maxRecDepth 4000 in
theorem cs_36 (PL : (Nat → Int32) → (Nat → Int32) → (Nat → Int32) → (Nat → Int64) → (Nat → Int64) → (Nat → Int32) → Prop) (cp1_acts : Int32) (cp1_nextSlot : Int32) (cp1_now_today : Int32) (cp1_now_products : Int32) (cp1_now_itemCount : Int32) (cp1_now_items : Nat → Int32) (cp1_now_books : Nat → Int32) (cp1_now_terms : Nat → Int32) (cp1_now_shelves_lanes : Int32) (cp1_now_shelves_positions : Int32) (cp1_now_shelves_room : Int32) (cp1_now_shelves_gap : Int32) (cp1_now_shelves_places : Int32) (cp1_now_shelves_picked : Int64) (cp1_now_shelves_lot : Nat → Int32) (cp1_now_shelves_pieces : Nat → Int32) (cp1_now_shelves_mark : Nat → Int32) (cp1_now_shelves_byDistance : Nat → Int32) (cp1_now_lots_count : Int32) (cp1_now_lots_product : Nat → Int32) (cp1_now_lots_last : Nat → Int32) (cp1_now_lots_cost : Nat → Int32) (cp1_now_lots_state : Nat → Int32) (cp1_now_lots_byLast : Nat → Int32) (cp1_now_orders_count : Int32) (cp1_now_orders_gifts : Int32) (cp1_now_orders_customer : Nat → Int32) (cp1_now_orders_product : Nat → Int32) (cp1_now_orders_open : Nat → Int32) (cp1_now_orders_due : Nat → Int32) (cp1_now_orders_life : Nat → Int32) (cp1_now_orders_byDue : Nat → Int32) (cp1_now_orders_had : Nat → Int32) (cp1_now_orders_stamps : Nat → Int32) (cp1_hk : Nat) (cp1_st : Nat → StT) (cp1_plan_terms : Nat → Int32) (cp1_plan_low : Nat → Int32) (cp1_plan_high : Nat → Int32) (cp1_plan_bottom : Nat → Int64) (cp1_plan_cost : Nat → Int64) (cp1_plan_act : Nat → Int32) (cp1_picker_deepest : Int32) (cp1_picker_shallowest : Int32) (cp1_picker_widest : Int32) (cp1_picker_least : Nat → Int32) (cp1_picker_next : Nat → Int32) (cp1_rest : Nat → Int32) (cp1_packed : Nat → Int32) (cp2_raised : Int32) (cp2_undos : Int32) (cp2_eldest : Int32) (cp2_w : Nat → Int32) (cp2_kept : Nat → Int32) (cp2_copy : Nat → Int32) (cp2_near : Nat → Int32) (cp2_isDone : Nat → Int32) (cp2_lane : Nat → Int32) (cp2_position : Nat → Int32) (cp2_least : Nat → Int32) (cp2_boxesOf : Nat → Int32) (cp2_staying : Nat → Int64) (cp2_planned : Nat → Int64) (cp2_scale : Nat → Int64) (cp3 : Nat → Int64) (v1 v2 v3 v4 v5 : Int32) (hR : RC PL (cp1_now_today, cp1_now_products, cp1_now_itemCount, cp1_now_items, cp1_now_books, cp1_now_terms, cp1_now_shelves_lanes, cp1_now_shelves_positions, cp1_now_shelves_room, cp1_now_shelves_gap, cp1_now_shelves_places, cp1_now_shelves_picked, cp1_now_shelves_lot, cp1_now_shelves_pieces, cp1_now_shelves_mark, cp1_now_shelves_byDistance, cp1_now_lots_count, cp1_now_lots_product, cp1_now_lots_last, cp1_now_lots_cost, cp1_now_lots_state, cp1_now_lots_byLast, cp1_now_orders_count, cp1_now_orders_gifts, cp1_now_orders_customer, cp1_now_orders_product, cp1_now_orders_open, cp1_now_orders_due, cp1_now_orders_life, cp1_now_orders_byDue, cp1_now_orders_had, cp1_now_orders_stamps) cp2_w cp2_near cp1_acts cp1_nextSlot cp1_hk cp1_st cp2_undos cp2_eldest cp2_kept cp1_plan_terms cp1_plan_low cp1_plan_high cp1_plan_bottom cp1_plan_cost cp1_plan_act) : ∃ z', f_c36 v1 v2 v3 v4 v5 (cp1_acts, cp1_nextSlot, cp1_now_today, cp1_now_products, cp1_now_itemCount, cp1_now_items, cp1_now_books, cp1_now_terms, cp1_now_shelves_lanes, cp1_now_shelves_positions, cp1_now_shelves_room, cp1_now_shelves_gap, cp1_now_shelves_places, cp1_now_shelves_picked, cp1_now_shelves_lot, cp1_now_shelves_pieces, cp1_now_shelves_mark, cp1_now_shelves_byDistance, cp1_now_lots_count, cp1_now_lots_product, cp1_now_lots_last, cp1_now_lots_cost, cp1_now_lots_state, cp1_now_lots_byLast, cp1_now_orders_count, cp1_now_orders_gifts, cp1_now_orders_customer, cp1_now_orders_product, cp1_now_orders_open, cp1_now_orders_due, cp1_now_orders_life, cp1_now_orders_byDue, cp1_now_orders_had, cp1_now_orders_stamps, cp1_hk, cp1_st, cp1_plan_terms, cp1_plan_low, cp1_plan_high, cp1_plan_bottom, cp1_plan_cost, cp1_plan_act, cp1_picker_deepest, cp1_picker_shallowest, cp1_picker_widest, cp1_picker_least, cp1_picker_next, cp1_rest, cp1_packed, cp2_raised, cp2_undos, cp2_eldest, cp2_w, cp2_kept, cp2_copy, cp2_near, cp2_isDone, cp2_lane, cp2_position, cp2_least, cp2_boxesOf, cp2_staying, cp2_planned, cp2_scale, cp3) = some z' ∧ R PL z' := by
  have hS := hR.1
  rw [RS_mk] at hS
  obtain ⟨a1, a2, a3, a4, a5, a6, a7, a8, a9, a10, a11, a12, a13, a14, a15⟩ := hS
  have a0 := a1
  obtain ⟨d0, d1, d2, d3, d4, d5, d6, d7, d8, d9, d10, d11, d12, d13, d14, d15, d16, d17, d18, d19, d20, d21, d22, d23, d24, d25, d26⟩ := a0
  obtain ⟨a', ns', hk', st', u', e', k', m1, m2, m3⟩ := remember_keep hR.1 hR.2.2.1
  have m1 : f_X7_remember cp1_acts cp1_nextSlot cp1_hk cp1_st cp1_now_today cp1_now_products cp1_now_itemCount cp1_now_items cp1_now_books cp1_now_terms cp1_now_shelves_lanes cp1_now_shelves_positions cp1_now_shelves_room cp1_now_shelves_gap cp1_now_shelves_places cp1_now_shelves_picked cp1_now_shelves_lot cp1_now_shelves_pieces cp1_now_shelves_mark cp1_now_shelves_byDistance cp1_now_lots_count cp1_now_lots_product cp1_now_lots_last cp1_now_lots_cost cp1_now_lots_state cp1_now_lots_byLast cp1_now_orders_count cp1_now_orders_gifts cp1_now_orders_customer cp1_now_orders_product cp1_now_orders_open cp1_now_orders_due cp1_now_orders_life cp1_now_orders_byDue cp1_now_orders_had cp1_now_orders_stamps = some (a', ns', hk', st') := m1
  by_cases c1 : 0 ≤ v1 ∧ v1 ≤ 9
  rotate_left
  · skip
    have h1 : f_W_setWants v1 v2 v3 v4 v5 cp1_acts cp1_nextSlot cp1_hk cp1_st cp1_now_today cp1_now_products cp1_now_itemCount cp1_now_items cp1_now_books cp1_now_terms cp1_now_shelves_lanes cp1_now_shelves_positions cp1_now_shelves_room cp1_now_shelves_gap cp1_now_shelves_places cp1_now_shelves_picked cp1_now_shelves_lot cp1_now_shelves_pieces cp1_now_shelves_mark cp1_now_shelves_byDistance cp1_now_lots_count cp1_now_lots_product cp1_now_lots_last cp1_now_lots_cost cp1_now_lots_state cp1_now_lots_byLast cp1_now_orders_count cp1_now_orders_gifts cp1_now_orders_customer cp1_now_orders_product cp1_now_orders_open cp1_now_orders_due cp1_now_orders_life cp1_now_orders_byDue cp1_now_orders_had cp1_now_orders_stamps cp3 = some (1, cp1_acts, cp1_nextSlot, cp1_hk, cp1_st, cp1_now_terms, cp3) := by
      unfold f_W_setWants f_X7_setWants
      simp only [n_range, bnd1, bnd6, Option.bind_some, mx, if_neg c1, ↓reduceIte]
    have h2 : f_Y8_setWants v1 v2 v3 v4 v5 cp2_raised cp2_undos cp2_eldest cp2_w cp2_kept = some (0, 1, cp2_undos, cp2_eldest, cp2_w, cp2_kept) := by
      unfold f_Y8_setWants f_Y8_setWants_J56 f_Y8_setWants_J57 f_Y8_setWants_J83 f_Y8_setWants_J84
      simp only [n_in, bnd1, bnd2, Option.bind_some, if_neg c1, if_neg one_ne, can_f0, ↓reduceIte]
    refine ⟨?wa1, ?pa1, ?qa1⟩
    case pa1 =>
      rw [fc_36, h1]
      simp only [bnd7, Option.bind_some]
      rw [h2]
      simp only [bnd1, bnd6, Option.bind_some, f_Y8_thrown]
      exact fin_1 (show ¬ (1 : Int32) = 0 by decide)
    case qa1 =>
      rw [R_mk]
      exact hR
  by_cases c2 : 0 ≤ v2 ∧ v2 ≤ 9
  rotate_left
  · skip
    have h1 : f_W_setWants v1 v2 v3 v4 v5 cp1_acts cp1_nextSlot cp1_hk cp1_st cp1_now_today cp1_now_products cp1_now_itemCount cp1_now_items cp1_now_books cp1_now_terms cp1_now_shelves_lanes cp1_now_shelves_positions cp1_now_shelves_room cp1_now_shelves_gap cp1_now_shelves_places cp1_now_shelves_picked cp1_now_shelves_lot cp1_now_shelves_pieces cp1_now_shelves_mark cp1_now_shelves_byDistance cp1_now_lots_count cp1_now_lots_product cp1_now_lots_last cp1_now_lots_cost cp1_now_lots_state cp1_now_lots_byLast cp1_now_orders_count cp1_now_orders_gifts cp1_now_orders_customer cp1_now_orders_product cp1_now_orders_open cp1_now_orders_due cp1_now_orders_life cp1_now_orders_byDue cp1_now_orders_had cp1_now_orders_stamps cp3 = some (1, cp1_acts, cp1_nextSlot, cp1_hk, cp1_st, cp1_now_terms, cp3) := by
      unfold f_W_setWants f_X7_setWants
      simp only [n_range, bnd1, bnd6, Option.bind_some, mx, if_pos c1, if_neg c2, ↓reduceIte]
    have h2 : f_Y8_setWants v1 v2 v3 v4 v5 cp2_raised cp2_undos cp2_eldest cp2_w cp2_kept = some (0, 1, cp2_undos, cp2_eldest, cp2_w, cp2_kept) := by
      unfold f_Y8_setWants f_Y8_setWants_J56 f_Y8_setWants_J57 f_Y8_setWants_J83 f_Y8_setWants_J84
      simp only [n_in, bnd1, bnd2, Option.bind_some, if_pos c1, if_neg c2, if_neg one_ne, can_f0, ↓reduceIte]
    refine ⟨?wa2, ?pa2, ?qa2⟩
    case pa2 =>
      rw [fc_36, h1]
      simp only [bnd7, Option.bind_some]
      rw [h2]
      simp only [bnd1, bnd6, Option.bind_some, f_Y8_thrown]
      exact fin_1 (show ¬ (1 : Int32) = 0 by decide)
    case qa2 =>
      rw [R_mk]
      exact hR
  by_cases c3 : 0 ≤ v3 ∧ v3 ≤ 9
  rotate_left
  · skip
    have h1 : f_W_setWants v1 v2 v3 v4 v5 cp1_acts cp1_nextSlot cp1_hk cp1_st cp1_now_today cp1_now_products cp1_now_itemCount cp1_now_items cp1_now_books cp1_now_terms cp1_now_shelves_lanes cp1_now_shelves_positions cp1_now_shelves_room cp1_now_shelves_gap cp1_now_shelves_places cp1_now_shelves_picked cp1_now_shelves_lot cp1_now_shelves_pieces cp1_now_shelves_mark cp1_now_shelves_byDistance cp1_now_lots_count cp1_now_lots_product cp1_now_lots_last cp1_now_lots_cost cp1_now_lots_state cp1_now_lots_byLast cp1_now_orders_count cp1_now_orders_gifts cp1_now_orders_customer cp1_now_orders_product cp1_now_orders_open cp1_now_orders_due cp1_now_orders_life cp1_now_orders_byDue cp1_now_orders_had cp1_now_orders_stamps cp3 = some (1, cp1_acts, cp1_nextSlot, cp1_hk, cp1_st, cp1_now_terms, cp3) := by
      unfold f_W_setWants f_X7_setWants
      simp only [n_range, bnd1, bnd6, Option.bind_some, mx, if_pos c1, if_pos c2, if_neg c3, ↓reduceIte]
    have h2 : f_Y8_setWants v1 v2 v3 v4 v5 cp2_raised cp2_undos cp2_eldest cp2_w cp2_kept = some (0, 1, cp2_undos, cp2_eldest, cp2_w, cp2_kept) := by
      unfold f_Y8_setWants f_Y8_setWants_J56 f_Y8_setWants_J57 f_Y8_setWants_J83 f_Y8_setWants_J84
      simp only [n_in, bnd1, bnd2, Option.bind_some, if_pos c1, if_pos c2, if_neg c3, if_neg one_ne, can_f0, ↓reduceIte]
    refine ⟨?wa3, ?pa3, ?qa3⟩
    case pa3 =>
      rw [fc_36, h1]
      simp only [bnd7, Option.bind_some]
      rw [h2]
      simp only [bnd1, bnd6, Option.bind_some, f_Y8_thrown]
      exact fin_1 (show ¬ (1 : Int32) = 0 by decide)
    case qa3 =>
      rw [R_mk]
      exact hR
  by_cases c4 : 0 ≤ v4 ∧ v4 ≤ 9
  rotate_left
  · skip
    have h1 : f_W_setWants v1 v2 v3 v4 v5 cp1_acts cp1_nextSlot cp1_hk cp1_st cp1_now_today cp1_now_products cp1_now_itemCount cp1_now_items cp1_now_books cp1_now_terms cp1_now_shelves_lanes cp1_now_shelves_positions cp1_now_shelves_room cp1_now_shelves_gap cp1_now_shelves_places cp1_now_shelves_picked cp1_now_shelves_lot cp1_now_shelves_pieces cp1_now_shelves_mark cp1_now_shelves_byDistance cp1_now_lots_count cp1_now_lots_product cp1_now_lots_last cp1_now_lots_cost cp1_now_lots_state cp1_now_lots_byLast cp1_now_orders_count cp1_now_orders_gifts cp1_now_orders_customer cp1_now_orders_product cp1_now_orders_open cp1_now_orders_due cp1_now_orders_life cp1_now_orders_byDue cp1_now_orders_had cp1_now_orders_stamps cp3 = some (1, cp1_acts, cp1_nextSlot, cp1_hk, cp1_st, cp1_now_terms, cp3) := by
      unfold f_W_setWants f_X7_setWants
      simp only [n_range, bnd1, bnd6, Option.bind_some, mx, if_pos c1, if_pos c2, if_pos c3, if_neg c4, ↓reduceIte]
    have h2 : f_Y8_setWants v1 v2 v3 v4 v5 cp2_raised cp2_undos cp2_eldest cp2_w cp2_kept = some (0, 1, cp2_undos, cp2_eldest, cp2_w, cp2_kept) := by
      unfold f_Y8_setWants f_Y8_setWants_J56 f_Y8_setWants_J57 f_Y8_setWants_J83 f_Y8_setWants_J84
      simp only [n_in, bnd1, bnd2, Option.bind_some, if_pos c1, if_pos c2, if_pos c3, if_neg c4, if_neg one_ne, can_f0, ↓reduceIte]
    refine ⟨?wa4, ?pa4, ?qa4⟩
    case pa4 =>
      rw [fc_36, h1]
      simp only [bnd7, Option.bind_some]
      rw [h2]
      simp only [bnd1, bnd6, Option.bind_some, f_Y8_thrown]
      exact fin_1 (show ¬ (1 : Int32) = 0 by decide)
    case qa4 =>
      rw [R_mk]
      exact hR
  by_cases c5 : 0 ≤ v5 ∧ v5 ≤ 9
  rotate_left
  · skip
    have h1 : f_W_setWants v1 v2 v3 v4 v5 cp1_acts cp1_nextSlot cp1_hk cp1_st cp1_now_today cp1_now_products cp1_now_itemCount cp1_now_items cp1_now_books cp1_now_terms cp1_now_shelves_lanes cp1_now_shelves_positions cp1_now_shelves_room cp1_now_shelves_gap cp1_now_shelves_places cp1_now_shelves_picked cp1_now_shelves_lot cp1_now_shelves_pieces cp1_now_shelves_mark cp1_now_shelves_byDistance cp1_now_lots_count cp1_now_lots_product cp1_now_lots_last cp1_now_lots_cost cp1_now_lots_state cp1_now_lots_byLast cp1_now_orders_count cp1_now_orders_gifts cp1_now_orders_customer cp1_now_orders_product cp1_now_orders_open cp1_now_orders_due cp1_now_orders_life cp1_now_orders_byDue cp1_now_orders_had cp1_now_orders_stamps cp3 = some (1, cp1_acts, cp1_nextSlot, cp1_hk, cp1_st, cp1_now_terms, cp3) := by
      unfold f_W_setWants f_X7_setWants
      simp only [n_range, bnd1, bnd6, Option.bind_some, mx, if_pos c1, if_pos c2, if_pos c3, if_pos c4, if_neg c5, ↓reduceIte]
    have h2 : f_Y8_setWants v1 v2 v3 v4 v5 cp2_raised cp2_undos cp2_eldest cp2_w cp2_kept = some (0, 1, cp2_undos, cp2_eldest, cp2_w, cp2_kept) := by
      unfold f_Y8_setWants f_Y8_setWants_J56 f_Y8_setWants_J57 f_Y8_setWants_J83 f_Y8_setWants_J84
      simp only [n_in, bnd1, bnd2, Option.bind_some, if_pos c1, if_pos c2, if_pos c3, if_pos c4, if_neg c5, if_neg one_ne, can_f0, ↓reduceIte]
    refine ⟨?wa5, ?pa5, ?qa5⟩
    case pa5 =>
      rw [fc_36, h1]
      simp only [bnd7, Option.bind_some]
      rw [h2]
      simp only [bnd1, bnd6, Option.bind_some, f_Y8_thrown]
      exact fin_1 (show ¬ (1 : Int32) = 0 by decide)
    case qa5 =>
      rw [R_mk]
      exact hR
  by_cases c6 : v1 + v2 + v3 + v4 + v5 = 0
  · skip
    have h1 : f_W_setWants v1 v2 v3 v4 v5 cp1_acts cp1_nextSlot cp1_hk cp1_st cp1_now_today cp1_now_products cp1_now_itemCount cp1_now_items cp1_now_books cp1_now_terms cp1_now_shelves_lanes cp1_now_shelves_positions cp1_now_shelves_room cp1_now_shelves_gap cp1_now_shelves_places cp1_now_shelves_picked cp1_now_shelves_lot cp1_now_shelves_pieces cp1_now_shelves_mark cp1_now_shelves_byDistance cp1_now_lots_count cp1_now_lots_product cp1_now_lots_last cp1_now_lots_cost cp1_now_lots_state cp1_now_lots_byLast cp1_now_orders_count cp1_now_orders_gifts cp1_now_orders_customer cp1_now_orders_product cp1_now_orders_open cp1_now_orders_due cp1_now_orders_life cp1_now_orders_byDue cp1_now_orders_had cp1_now_orders_stamps cp3 = some (1, cp1_acts, cp1_nextSlot, cp1_hk, cp1_st, cp1_now_terms, cp3) := by
      unfold f_W_setWants f_X7_setWants
      simp only [n_range, bnd1, bnd6, Option.bind_some, mx, if_pos c1, if_pos c2, if_pos c3, if_pos c4, if_pos c5, if_pos c6, ↓reduceIte]
    have h2 : f_Y8_setWants v1 v2 v3 v4 v5 cp2_raised cp2_undos cp2_eldest cp2_w cp2_kept = some (0, 1, cp2_undos, cp2_eldest, cp2_w, cp2_kept) := by
      unfold f_Y8_setWants f_Y8_setWants_J56 f_Y8_setWants_J57 f_Y8_setWants_J83 f_Y8_setWants_J84
      simp only [n_in, bnd1, bnd2, Option.bind_some, if_pos c1, if_pos c2, if_pos c3, if_pos c4, if_pos c5, if_neg one_ne]
      rw [if_pos (show v1 + v2 + v3 + v4 + v5 ≤ 0 by rw [c6]; decide)]
      simp only [can_f0, Option.bind_some, ↓reduceIte]
    refine ⟨?wb, ?pb, ?qb⟩
    case pb =>
      rw [fc_36, h1]
      simp only [bnd7, Option.bind_some]
      rw [h2]
      simp only [bnd1, bnd6, Option.bind_some, f_Y8_thrown]
      exact fin_1 (show ¬ (1 : Int32) = 0 by decide)
    case qb =>
      rw [R_mk]
      exact hR
  · skip
    have c7 : ¬ v1 + v2 + v3 + v4 + v5 ≤ 0 := by clear hR m1 m2 m3; grind
    have h1 : f_W_setWants v1 v2 v3 v4 v5 cp1_acts cp1_nextSlot cp1_hk cp1_st cp1_now_today cp1_now_products cp1_now_itemCount cp1_now_items cp1_now_books cp1_now_terms cp1_now_shelves_lanes cp1_now_shelves_positions cp1_now_shelves_room cp1_now_shelves_gap cp1_now_shelves_places cp1_now_shelves_picked cp1_now_shelves_lot cp1_now_shelves_pieces cp1_now_shelves_mark cp1_now_shelves_byDistance cp1_now_lots_count cp1_now_lots_product cp1_now_lots_last cp1_now_lots_cost cp1_now_lots_state cp1_now_lots_byLast cp1_now_orders_count cp1_now_orders_gifts cp1_now_orders_customer cp1_now_orders_product cp1_now_orders_open cp1_now_orders_due cp1_now_orders_life cp1_now_orders_byDue cp1_now_orders_had cp1_now_orders_stamps cp3 = some (0, a', ns', hk', st', (upd (upd (upd (upd (upd cp1_now_terms (0 : Int32).toNatClampNeg v1) (1 : Int32).toNatClampNeg v2) (2 : Int32).toNatClampNeg v3) (3 : Int32).toNatClampNeg v4) (4 : Int32).toNatClampNeg v5), vp_updL cp3 (0 : Int32).toNatClampNeg (v1 + v2 + v3 + v4 + v5).toInt64) := by
      unfold f_W_setWants f_X7_setWants
      simp only [n_range, bnd1, bnd4, bnd6, Option.bind_some, mx, if_pos c1, if_pos c2, if_pos c3, if_pos c4, if_pos c5, if_neg c6]
      rw [m1]
      simp only [Option.bind_some]
      rw [gd_10 (by decide) (by decide), gd_10 (by decide) (by decide), gd_10 (by decide) (by decide), gd_10 (by decide) (by decide), gd_10 (by decide) (by decide)]
      simp only [Option.bind_some]
      rw [gd_1 (by decide) (by decide)]
    have h2 : f_Y8_setWants v1 v2 v3 v4 v5 cp2_raised cp2_undos cp2_eldest cp2_w cp2_kept = some ((v1 + v2 + v3 + v4 + v5), 0, u', e', (upd (upd (upd (upd (upd cp2_w (2432 : Int32).toNatClampNeg v1) (2433 : Int32).toNatClampNeg v2) (2434 : Int32).toNatClampNeg v3) (2435 : Int32).toNatClampNeg v4) (2436 : Int32).toNatClampNeg v5), k') := by
      unfold f_Y8_setWants f_Y8_setWants_J56 f_Y8_setWants_J57 f_Y8_setWants_J83 f_Y8_setWants_J84
      simp only [n_in, bnd1, bnd2, bnd3, Option.bind_some, if_pos c1, if_pos c2, if_pos c3, if_pos c4, if_pos c5, if_neg one_ne, if_neg c7, can_t]
      rw [m2]
      simp only [Option.bind_some]
      rw [gd_2450 (by decide) (by decide), gd_2450 (by decide) (by decide), gd_2450 (by decide) (by decide), gd_2450 (by decide) (by decide), gd_2450 (by decide) (by decide)]
    have hAG : ∀ A B : Int32, 0 ≤ A → (B ≤ 2432 ∨ 2442 ≤ A) → AG A B cp2_w (upd (upd (upd (upd (upd cp2_w (2432 : Int32).toNatClampNeg v1) (2433 : Int32).toNatClampNeg v2) (2434 : Int32).toNatClampNeg v3) (2435 : Int32).toNatClampNeg v4) (2436 : Int32).toNatClampNeg v5) := fun A B hA h => ((((AG.rf.up hA (by decide) (by clear hR m1 m2 m3; grind)).up hA (by decide) (by clear hR m1 m2 m3; grind)).up hA (by decide) (by clear hR m1 m2 m3; grind)).up hA (by decide) (by clear hR m1 m2 m3; grind)).up hA (by decide) (by clear hR m1 m2 m3; grind)
    have q13 : QT (upd (upd (upd (upd (upd cp1_now_terms (0 : Int32).toNatClampNeg v1) (1 : Int32).toNatClampNeg v2) (2 : Int32).toNatClampNeg v3) (3 : Int32).toNatClampNeg v4) (4 : Int32).toNatClampNeg v5) (upd (upd (upd (upd (upd cp2_w (2432 : Int32).toNatClampNeg v1) (2433 : Int32).toNatClampNeg v2) (2434 : Int32).toNatClampNeg v3) (2435 : Int32).toNatClampNeg v4) (2436 : Int32).toNatClampNeg v5) := by
      obtain ⟨g0, g1, g2, g3, g4, g5, g6, g7, g8, g9, g10, g11, g12, g13, g14, g15, g16⟩ := a13
      refine ⟨?_, ?_, g2, g3, g4, g5, g6, g7, g8, g9, g10, g11, g12, g13, g14, g15, g16⟩
      · intro n n1 n2
        have hn : n = 0 ∨ n = 1 ∨ n = 2 ∨ n = 3 ∨ n = 4 := by clear hR m1 m2 m3; grind
        rcases hn with rfl | rfl | rfl | rfl | rfl
        · exact ⟨rfl, c1.1, c1.2⟩
        · exact ⟨rfl, c2.1, c2.2⟩
        · exact ⟨rfl, c3.1, c3.2⟩
        · exact ⟨rfl, c4.1, c4.2⟩
        · exact ⟨rfl, c5.1, c5.2⟩
      · show 1 ≤ v1 + v2 + v3 + v4 + v5
        clear hR m1 m2 m3; grind
    refine ⟨?wc, ?pc, ?qc⟩
    case pc =>
      rw [fc_36, h1]
      simp only [bnd7, Option.bind_some]
      rw [h2]
      simp only [bnd1, bnd6, Option.bind_some, f_Y8_thrown]
      refine fin_0 ?_
      rfl
    case qc =>
      rw [R_mk]
      refine ⟨?_, hR.2.1, m3, hR.2.2.2⟩
      rw [RS_mk]
      exact ⟨QD_ag (hAG _ _ (by decide) (by decide)) a1, QB_ag (hAG _ _ (by decide) (by decide)) a2, QP_ag d17 (hAG _ _ (by decide) (by decide)) a3, QK_ag (hAG _ _ (by decide) (by decide)) a4, QL_ag d23 (hAG _ _ (by decide) (by decide)) a5, a6, QO_ag d26 (hAG _ _ (by decide) (by decide)) a7, a8, QH_ag d26 (hAG _ _ (by decide) (by decide)) a9, QG_ag d25 d26 (hAG _ _ (by decide) (by decide)) (hAG _ _ (by decide) (by decide)) a10, a11, QI_ag (hAG _ _ (by decide) (by decide)) a12, q13, a14, a15⟩

set_option maxRecDepth 4000 in
theorem cs_37 (PL : (Nat → Int32) → (Nat → Int32) → (Nat → Int32) → (Nat → Int64) → (Nat → Int64) → (Nat → Int32) → Prop) (cp1_acts : Int32) (cp1_nextSlot : Int32) (cp1_now_today : Int32) (cp1_now_products : Int32) (cp1_now_itemCount : Int32) (cp1_now_items : Nat → Int32) (cp1_now_books : Nat → Int32) (cp1_now_terms : Nat → Int32) (cp1_now_shelves_lanes : Int32) (cp1_now_shelves_positions : Int32) (cp1_now_shelves_room : Int32) (cp1_now_shelves_gap : Int32) (cp1_now_shelves_places : Int32) (cp1_now_shelves_picked : Int64) (cp1_now_shelves_lot : Nat → Int32) (cp1_now_shelves_pieces : Nat → Int32) (cp1_now_shelves_mark : Nat → Int32) (cp1_now_shelves_byDistance : Nat → Int32) (cp1_now_lots_count : Int32) (cp1_now_lots_product : Nat → Int32) (cp1_now_lots_last : Nat → Int32) (cp1_now_lots_cost : Nat → Int32) (cp1_now_lots_state : Nat → Int32) (cp1_now_lots_byLast : Nat → Int32) (cp1_now_orders_count : Int32) (cp1_now_orders_gifts : Int32) (cp1_now_orders_customer : Nat → Int32) (cp1_now_orders_product : Nat → Int32) (cp1_now_orders_open : Nat → Int32) (cp1_now_orders_due : Nat → Int32) (cp1_now_orders_life : Nat → Int32) (cp1_now_orders_byDue : Nat → Int32) (cp1_now_orders_had : Nat → Int32) (cp1_now_orders_stamps : Nat → Int32) (cp1_hk : Nat) (cp1_st : Nat → StT) (cp1_plan_terms : Nat → Int32) (cp1_plan_low : Nat → Int32) (cp1_plan_high : Nat → Int32) (cp1_plan_bottom : Nat → Int64) (cp1_plan_cost : Nat → Int64) (cp1_plan_act : Nat → Int32) (cp1_picker_deepest : Int32) (cp1_picker_shallowest : Int32) (cp1_picker_widest : Int32) (cp1_picker_least : Nat → Int32) (cp1_picker_next : Nat → Int32) (cp1_rest : Nat → Int32) (cp1_packed : Nat → Int32) (cp2_raised : Int32) (cp2_undos : Int32) (cp2_eldest : Int32) (cp2_w : Nat → Int32) (cp2_kept : Nat → Int32) (cp2_copy : Nat → Int32) (cp2_near : Nat → Int32) (cp2_isDone : Nat → Int32) (cp2_lane : Nat → Int32) (cp2_position : Nat → Int32) (cp2_least : Nat → Int32) (cp2_boxesOf : Nat → Int32) (cp2_staying : Nat → Int64) (cp2_planned : Nat → Int64) (cp2_scale : Nat → Int64) (cp3 : Nat → Int64) (v1 v2 v3 v4 v5 : Int32) (hR : RC PL (cp1_now_today, cp1_now_products, cp1_now_itemCount, cp1_now_items, cp1_now_books, cp1_now_terms, cp1_now_shelves_lanes, cp1_now_shelves_positions, cp1_now_shelves_room, cp1_now_shelves_gap, cp1_now_shelves_places, cp1_now_shelves_picked, cp1_now_shelves_lot, cp1_now_shelves_pieces, cp1_now_shelves_mark, cp1_now_shelves_byDistance, cp1_now_lots_count, cp1_now_lots_product, cp1_now_lots_last, cp1_now_lots_cost, cp1_now_lots_state, cp1_now_lots_byLast, cp1_now_orders_count, cp1_now_orders_gifts, cp1_now_orders_customer, cp1_now_orders_product, cp1_now_orders_open, cp1_now_orders_due, cp1_now_orders_life, cp1_now_orders_byDue, cp1_now_orders_had, cp1_now_orders_stamps) cp2_w cp2_near cp1_acts cp1_nextSlot cp1_hk cp1_st cp2_undos cp2_eldest cp2_kept cp1_plan_terms cp1_plan_low cp1_plan_high cp1_plan_bottom cp1_plan_cost cp1_plan_act) : ∃ z', f_c37 v1 v2 v3 v4 v5 (cp1_acts, cp1_nextSlot, cp1_now_today, cp1_now_products, cp1_now_itemCount, cp1_now_items, cp1_now_books, cp1_now_terms, cp1_now_shelves_lanes, cp1_now_shelves_positions, cp1_now_shelves_room, cp1_now_shelves_gap, cp1_now_shelves_places, cp1_now_shelves_picked, cp1_now_shelves_lot, cp1_now_shelves_pieces, cp1_now_shelves_mark, cp1_now_shelves_byDistance, cp1_now_lots_count, cp1_now_lots_product, cp1_now_lots_last, cp1_now_lots_cost, cp1_now_lots_state, cp1_now_lots_byLast, cp1_now_orders_count, cp1_now_orders_gifts, cp1_now_orders_customer, cp1_now_orders_product, cp1_now_orders_open, cp1_now_orders_due, cp1_now_orders_life, cp1_now_orders_byDue, cp1_now_orders_had, cp1_now_orders_stamps, cp1_hk, cp1_st, cp1_plan_terms, cp1_plan_low, cp1_plan_high, cp1_plan_bottom, cp1_plan_cost, cp1_plan_act, cp1_picker_deepest, cp1_picker_shallowest, cp1_picker_widest, cp1_picker_least, cp1_picker_next, cp1_rest, cp1_packed, cp2_raised, cp2_undos, cp2_eldest, cp2_w, cp2_kept, cp2_copy, cp2_near, cp2_isDone, cp2_lane, cp2_position, cp2_least, cp2_boxesOf, cp2_staying, cp2_planned, cp2_scale, cp3) = some z' ∧ R PL z' := by
  have hS := hR.1
  rw [RS_mk] at hS
  obtain ⟨a1, a2, a3, a4, a5, a6, a7, a8, a9, a10, a11, a12, a13, a14, a15⟩ := hS
  have a0 := a1
  obtain ⟨d0, d1, d2, d3, d4, d5, d6, d7, d8, d9, d10, d11, d12, d13, d14, d15, d16, d17, d18, d19, d20, d21, d22, d23, d24, d25, d26⟩ := a0
  obtain ⟨a', ns', hk', st', u', e', k', m1, m2, m3⟩ := remember_keep hR.1 hR.2.2.1
  have m1 : f_X7_remember cp1_acts cp1_nextSlot cp1_hk cp1_st cp1_now_today cp1_now_products cp1_now_itemCount cp1_now_items cp1_now_books cp1_now_terms cp1_now_shelves_lanes cp1_now_shelves_positions cp1_now_shelves_room cp1_now_shelves_gap cp1_now_shelves_places cp1_now_shelves_picked cp1_now_shelves_lot cp1_now_shelves_pieces cp1_now_shelves_mark cp1_now_shelves_byDistance cp1_now_lots_count cp1_now_lots_product cp1_now_lots_last cp1_now_lots_cost cp1_now_lots_state cp1_now_lots_byLast cp1_now_orders_count cp1_now_orders_gifts cp1_now_orders_customer cp1_now_orders_product cp1_now_orders_open cp1_now_orders_due cp1_now_orders_life cp1_now_orders_byDue cp1_now_orders_had cp1_now_orders_stamps = some (a', ns', hk', st') := m1
  by_cases c1 : 0 ≤ v1 ∧ v1 ≤ 99
  rotate_left
  · skip
    have h1 : f_W_setCosts v1 v2 v3 v4 v5 cp1_acts cp1_nextSlot cp1_hk cp1_st cp1_now_today cp1_now_products cp1_now_itemCount cp1_now_items cp1_now_books cp1_now_terms cp1_now_shelves_lanes cp1_now_shelves_positions cp1_now_shelves_room cp1_now_shelves_gap cp1_now_shelves_places cp1_now_shelves_picked cp1_now_shelves_lot cp1_now_shelves_pieces cp1_now_shelves_mark cp1_now_shelves_byDistance cp1_now_lots_count cp1_now_lots_product cp1_now_lots_last cp1_now_lots_cost cp1_now_lots_state cp1_now_lots_byLast cp1_now_orders_count cp1_now_orders_gifts cp1_now_orders_customer cp1_now_orders_product cp1_now_orders_open cp1_now_orders_due cp1_now_orders_life cp1_now_orders_byDue cp1_now_orders_had cp1_now_orders_stamps cp3 = some (1, cp1_acts, cp1_nextSlot, cp1_hk, cp1_st, cp1_now_terms, cp3) := by
      unfold f_W_setCosts f_X7_setCosts
      simp only [n_range, bnd1, bnd6, Option.bind_some, mx, if_neg c1, ↓reduceIte]
    have h2 : f_Y8_setCosts v1 v2 v3 v4 v5 cp2_raised cp2_undos cp2_eldest cp2_w cp2_kept = some (0, 1, cp2_undos, cp2_eldest, cp2_w, cp2_kept) := by
      unfold f_Y8_setCosts f_Y8_setCosts_J59 f_Y8_setCosts_J60
      simp only [n_in, bnd1, bnd2, Option.bind_some, if_neg c1, if_neg one_ne, can_f0, ↓reduceIte]
    refine ⟨?wa1, ?pa1, ?qa1⟩
    case pa1 =>
      rw [fc_37, h1]
      simp only [bnd7, Option.bind_some]
      rw [h2]
      simp only [bnd1, bnd6, Option.bind_some, f_Y8_thrown]
      exact fin_1 (show ¬ (1 : Int32) = 0 by decide)
    case qa1 =>
      rw [R_mk]
      exact hR
  by_cases c2 : 0 ≤ v2 ∧ v2 ≤ 20
  rotate_left
  · skip
    have h1 : f_W_setCosts v1 v2 v3 v4 v5 cp1_acts cp1_nextSlot cp1_hk cp1_st cp1_now_today cp1_now_products cp1_now_itemCount cp1_now_items cp1_now_books cp1_now_terms cp1_now_shelves_lanes cp1_now_shelves_positions cp1_now_shelves_room cp1_now_shelves_gap cp1_now_shelves_places cp1_now_shelves_picked cp1_now_shelves_lot cp1_now_shelves_pieces cp1_now_shelves_mark cp1_now_shelves_byDistance cp1_now_lots_count cp1_now_lots_product cp1_now_lots_last cp1_now_lots_cost cp1_now_lots_state cp1_now_lots_byLast cp1_now_orders_count cp1_now_orders_gifts cp1_now_orders_customer cp1_now_orders_product cp1_now_orders_open cp1_now_orders_due cp1_now_orders_life cp1_now_orders_byDue cp1_now_orders_had cp1_now_orders_stamps cp3 = some (1, cp1_acts, cp1_nextSlot, cp1_hk, cp1_st, cp1_now_terms, cp3) := by
      unfold f_W_setCosts f_X7_setCosts
      simp only [n_range, bnd1, bnd6, Option.bind_some, mx, if_pos c1, if_neg c2, ↓reduceIte]
    have h2 : f_Y8_setCosts v1 v2 v3 v4 v5 cp2_raised cp2_undos cp2_eldest cp2_w cp2_kept = some (0, 1, cp2_undos, cp2_eldest, cp2_w, cp2_kept) := by
      unfold f_Y8_setCosts f_Y8_setCosts_J59 f_Y8_setCosts_J60
      simp only [n_in, bnd1, bnd2, Option.bind_some, if_pos c1, if_neg c2, if_neg one_ne, can_f0, ↓reduceIte]
    refine ⟨?wa2, ?pa2, ?qa2⟩
    case pa2 =>
      rw [fc_37, h1]
      simp only [bnd7, Option.bind_some]
      rw [h2]
      simp only [bnd1, bnd6, Option.bind_some, f_Y8_thrown]
      exact fin_1 (show ¬ (1 : Int32) = 0 by decide)
    case qa2 =>
      rw [R_mk]
      exact hR
  by_cases c3 : 0 ≤ v3 ∧ v3 ≤ 20
  rotate_left
  · skip
    have h1 : f_W_setCosts v1 v2 v3 v4 v5 cp1_acts cp1_nextSlot cp1_hk cp1_st cp1_now_today cp1_now_products cp1_now_itemCount cp1_now_items cp1_now_books cp1_now_terms cp1_now_shelves_lanes cp1_now_shelves_positions cp1_now_shelves_room cp1_now_shelves_gap cp1_now_shelves_places cp1_now_shelves_picked cp1_now_shelves_lot cp1_now_shelves_pieces cp1_now_shelves_mark cp1_now_shelves_byDistance cp1_now_lots_count cp1_now_lots_product cp1_now_lots_last cp1_now_lots_cost cp1_now_lots_state cp1_now_lots_byLast cp1_now_orders_count cp1_now_orders_gifts cp1_now_orders_customer cp1_now_orders_product cp1_now_orders_open cp1_now_orders_due cp1_now_orders_life cp1_now_orders_byDue cp1_now_orders_had cp1_now_orders_stamps cp3 = some (1, cp1_acts, cp1_nextSlot, cp1_hk, cp1_st, cp1_now_terms, cp3) := by
      unfold f_W_setCosts f_X7_setCosts
      simp only [n_range, bnd1, bnd6, Option.bind_some, mx, if_pos c1, if_pos c2, if_neg c3, ↓reduceIte]
    have h2 : f_Y8_setCosts v1 v2 v3 v4 v5 cp2_raised cp2_undos cp2_eldest cp2_w cp2_kept = some (0, 1, cp2_undos, cp2_eldest, cp2_w, cp2_kept) := by
      unfold f_Y8_setCosts f_Y8_setCosts_J59 f_Y8_setCosts_J60
      simp only [n_in, bnd1, bnd2, Option.bind_some, if_pos c1, if_pos c2, if_neg c3, if_neg one_ne, can_f0, ↓reduceIte]
    refine ⟨?wa3, ?pa3, ?qa3⟩
    case pa3 =>
      rw [fc_37, h1]
      simp only [bnd7, Option.bind_some]
      rw [h2]
      simp only [bnd1, bnd6, Option.bind_some, f_Y8_thrown]
      exact fin_1 (show ¬ (1 : Int32) = 0 by decide)
    case qa3 =>
      rw [R_mk]
      exact hR
  by_cases c4 : v2 + 1 ≤ v4 ∧ v4 ≤ 60
  rotate_left
  · skip
    have h1 : f_W_setCosts v1 v2 v3 v4 v5 cp1_acts cp1_nextSlot cp1_hk cp1_st cp1_now_today cp1_now_products cp1_now_itemCount cp1_now_items cp1_now_books cp1_now_terms cp1_now_shelves_lanes cp1_now_shelves_positions cp1_now_shelves_room cp1_now_shelves_gap cp1_now_shelves_places cp1_now_shelves_picked cp1_now_shelves_lot cp1_now_shelves_pieces cp1_now_shelves_mark cp1_now_shelves_byDistance cp1_now_lots_count cp1_now_lots_product cp1_now_lots_last cp1_now_lots_cost cp1_now_lots_state cp1_now_lots_byLast cp1_now_orders_count cp1_now_orders_gifts cp1_now_orders_customer cp1_now_orders_product cp1_now_orders_open cp1_now_orders_due cp1_now_orders_life cp1_now_orders_byDue cp1_now_orders_had cp1_now_orders_stamps cp3 = some (1, cp1_acts, cp1_nextSlot, cp1_hk, cp1_st, cp1_now_terms, cp3) := by
      unfold f_W_setCosts f_X7_setCosts
      simp only [n_range, bnd1, bnd6, Option.bind_some, mx, if_pos c1, if_pos c2, if_pos c3, if_neg c4, ↓reduceIte]
    have h2 : f_Y8_setCosts v1 v2 v3 v4 v5 cp2_raised cp2_undos cp2_eldest cp2_w cp2_kept = some (0, 1, cp2_undos, cp2_eldest, cp2_w, cp2_kept) := by
      unfold f_Y8_setCosts f_Y8_setCosts_J59 f_Y8_setCosts_J60
      simp only [n_in, bnd1, bnd2, Option.bind_some, if_pos c1, if_pos c2, if_pos c3, if_neg c4, if_neg one_ne, can_f0, ↓reduceIte]
    refine ⟨?wa4, ?pa4, ?qa4⟩
    case pa4 =>
      rw [fc_37, h1]
      simp only [bnd7, Option.bind_some]
      rw [h2]
      simp only [bnd1, bnd6, Option.bind_some, f_Y8_thrown]
      exact fin_1 (show ¬ (1 : Int32) = 0 by decide)
    case qa4 =>
      rw [R_mk]
      exact hR
  by_cases c5 : 0 ≤ v5 ∧ v5 ≤ 20
  rotate_left
  · skip
    have h1 : f_W_setCosts v1 v2 v3 v4 v5 cp1_acts cp1_nextSlot cp1_hk cp1_st cp1_now_today cp1_now_products cp1_now_itemCount cp1_now_items cp1_now_books cp1_now_terms cp1_now_shelves_lanes cp1_now_shelves_positions cp1_now_shelves_room cp1_now_shelves_gap cp1_now_shelves_places cp1_now_shelves_picked cp1_now_shelves_lot cp1_now_shelves_pieces cp1_now_shelves_mark cp1_now_shelves_byDistance cp1_now_lots_count cp1_now_lots_product cp1_now_lots_last cp1_now_lots_cost cp1_now_lots_state cp1_now_lots_byLast cp1_now_orders_count cp1_now_orders_gifts cp1_now_orders_customer cp1_now_orders_product cp1_now_orders_open cp1_now_orders_due cp1_now_orders_life cp1_now_orders_byDue cp1_now_orders_had cp1_now_orders_stamps cp3 = some (1, cp1_acts, cp1_nextSlot, cp1_hk, cp1_st, cp1_now_terms, cp3) := by
      unfold f_W_setCosts f_X7_setCosts
      simp only [n_range, bnd1, bnd6, Option.bind_some, mx, if_pos c1, if_pos c2, if_pos c3, if_pos c4, if_neg c5, ↓reduceIte]
    have h2 : f_Y8_setCosts v1 v2 v3 v4 v5 cp2_raised cp2_undos cp2_eldest cp2_w cp2_kept = some (0, 1, cp2_undos, cp2_eldest, cp2_w, cp2_kept) := by
      unfold f_Y8_setCosts f_Y8_setCosts_J59 f_Y8_setCosts_J60
      simp only [n_in, bnd1, bnd2, Option.bind_some, if_pos c1, if_pos c2, if_pos c3, if_pos c4, if_neg c5, if_neg one_ne, can_f0, ↓reduceIte]
    refine ⟨?wa5, ?pa5, ?qa5⟩
    case pa5 =>
      rw [fc_37, h1]
      simp only [bnd7, Option.bind_some]
      rw [h2]
      simp only [bnd1, bnd6, Option.bind_some, f_Y8_thrown]
      exact fin_1 (show ¬ (1 : Int32) = 0 by decide)
    case qa5 =>
      rw [R_mk]
      exact hR
  · skip
    have h1 : f_W_setCosts v1 v2 v3 v4 v5 cp1_acts cp1_nextSlot cp1_hk cp1_st cp1_now_today cp1_now_products cp1_now_itemCount cp1_now_items cp1_now_books cp1_now_terms cp1_now_shelves_lanes cp1_now_shelves_positions cp1_now_shelves_room cp1_now_shelves_gap cp1_now_shelves_places cp1_now_shelves_picked cp1_now_shelves_lot cp1_now_shelves_pieces cp1_now_shelves_mark cp1_now_shelves_byDistance cp1_now_lots_count cp1_now_lots_product cp1_now_lots_last cp1_now_lots_cost cp1_now_lots_state cp1_now_lots_byLast cp1_now_orders_count cp1_now_orders_gifts cp1_now_orders_customer cp1_now_orders_product cp1_now_orders_open cp1_now_orders_due cp1_now_orders_life cp1_now_orders_byDue cp1_now_orders_had cp1_now_orders_stamps cp3 = some (0, a', ns', hk', st', (upd (upd (upd (upd (upd cp1_now_terms (5 : Int32).toNatClampNeg v1) (6 : Int32).toNatClampNeg v2) (7 : Int32).toNatClampNeg v3) (8 : Int32).toNatClampNeg v4) (9 : Int32).toNatClampNeg v5), vp_updL cp3 (0 : Int32).toNatClampNeg (cp1_now_terms 9).toInt64) := by
      unfold f_W_setCosts f_X7_setCosts
      simp only [n_range, bnd1, bnd4, bnd6, Option.bind_some, mx, if_pos c1, if_pos c2, if_pos c3, if_pos c4, if_pos c5]
      rw [m1]
      simp only [Option.bind_some]
      rw [gd_10 (by decide) (by decide), gd_10 (by decide) (by decide), gd_10 (by decide) (by decide), gd_10 (by decide) (by decide), gd_10 (by decide) (by decide), gd_10 (by decide) (by decide)]
      simp only [Option.bind_some]
      rw [gd_1 (by decide) (by decide)]
      rfl
    have h2 : f_Y8_setCosts v1 v2 v3 v4 v5 cp2_raised cp2_undos cp2_eldest cp2_w cp2_kept = some (cp1_now_terms 9, 0, u', e', (upd (upd (upd (upd (upd cp2_w (2437 : Int32).toNatClampNeg v1) (2438 : Int32).toNatClampNeg v2) (2439 : Int32).toNatClampNeg v3) (2440 : Int32).toNatClampNeg v4) (2441 : Int32).toNatClampNeg v5), k') := by
      unfold f_Y8_setCosts f_Y8_setCosts_J59 f_Y8_setCosts_J60 f_Y8_costs
      simp only [n_in, bnd1, bnd2, bnd3, Option.bind_some, if_pos c1, if_pos c2, if_pos c3, if_pos c4, if_pos c5, if_neg one_ne, can_t]
      rw [m2]
      simp only [Option.bind_some]
      rw [gd_2450 (by decide) (by decide), gd_2450 (by decide) (by decide), gd_2450 (by decide) (by decide), gd_2450 (by decide) (by decide), gd_2450 (by decide) (by decide), gd_2450 (by decide) (by decide)]
      simp only [Option.bind_some]
      rw [show ((2441 : Int32).toNatClampNeg) = 2441 from rfl, a13.2.2.2.2.2.2.2.2.2.2.2.2.2.2.1]
    have hAG : ∀ A B : Int32, 0 ≤ A → (B ≤ 2432 ∨ 2442 ≤ A) → AG A B cp2_w (upd (upd (upd (upd (upd cp2_w (2437 : Int32).toNatClampNeg v1) (2438 : Int32).toNatClampNeg v2) (2439 : Int32).toNatClampNeg v3) (2440 : Int32).toNatClampNeg v4) (2441 : Int32).toNatClampNeg v5) := fun A B hA h => ((((AG.rf.up hA (by decide) (by clear hR m1 m2 m3; grind)).up hA (by decide) (by clear hR m1 m2 m3; grind)).up hA (by decide) (by clear hR m1 m2 m3; grind)).up hA (by decide) (by clear hR m1 m2 m3; grind)).up hA (by decide) (by clear hR m1 m2 m3; grind)
    have q13 : QT (upd (upd (upd (upd (upd cp1_now_terms (5 : Int32).toNatClampNeg v1) (6 : Int32).toNatClampNeg v2) (7 : Int32).toNatClampNeg v3) (8 : Int32).toNatClampNeg v4) (9 : Int32).toNatClampNeg v5) (upd (upd (upd (upd (upd cp2_w (2437 : Int32).toNatClampNeg v1) (2438 : Int32).toNatClampNeg v2) (2439 : Int32).toNatClampNeg v3) (2440 : Int32).toNatClampNeg v4) (2441 : Int32).toNatClampNeg v5) := by
      obtain ⟨g0, g1, g2, g3, g4, g5, g6, g7, g8, g9, g10, g11, g12, g13, g14, g15, g16⟩ := a13
      refine ⟨?_, g1, rfl, c1.1, c1.2, rfl, c2.1, c2.2, rfl, c3.1, c3.2, rfl, c4.1, c4.2, rfl, c5.1, c5.2⟩
      intro n n1 n2
      have hn : n = 0 ∨ n = 1 ∨ n = 2 ∨ n = 3 ∨ n = 4 := by clear hR m1 m2 m3; grind
      have := g0 n n1 n2
      rcases hn with rfl | rfl | rfl | rfl | rfl <;> exact this
    refine ⟨?wc, ?pc, ?qc⟩
    case pc =>
      rw [fc_37, h1]
      simp only [bnd7, Option.bind_some]
      rw [h2]
      simp only [bnd1, bnd6, Option.bind_some, f_Y8_thrown]
      refine fin_0 ?_
      rfl
    case qc =>
      rw [R_mk]
      refine ⟨?_, hR.2.1, m3, hR.2.2.2⟩
      rw [RS_mk]
      exact ⟨QD_ag (hAG _ _ (by decide) (by decide)) a1, QB_ag (hAG _ _ (by decide) (by decide)) a2, QP_ag d17 (hAG _ _ (by decide) (by decide)) a3, QK_ag (hAG _ _ (by decide) (by decide)) a4, QL_ag d23 (hAG _ _ (by decide) (by decide)) a5, a6, QO_ag d26 (hAG _ _ (by decide) (by decide)) a7, a8, QH_ag d26 (hAG _ _ (by decide) (by decide)) a9, QG_ag d25 d26 (hAG _ _ (by decide) (by decide)) (hAG _ _ (by decide) (by decide)) a10, a11, QI_ag (hAG _ _ (by decide) (by decide)) a12, q13, a14, a15⟩

