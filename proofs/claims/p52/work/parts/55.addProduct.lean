theorem can_f0 {k c : Int32} : f_Y8_can 0 k c = some (0, k) := by
  unfold f_Y8_can f_Y8_can_J10 gb; rfl
theorem one_ne : ¬ (1 : Int32) = 0 := by decide
theorem fin_1 {α : Type} {k : Int32} {o : Nat → Int64} {b : Int64} {t : Option α} (h : ¬ k = 0) : (if True then (if k = 0 then gd 0 1 (if (lg_cmp (o (0 : Int32).toNatClampNeg) b) = 0 then t else none) else t) else none) = t := by
  rw [if_pos trivial, if_neg h]
theorem fin_0 {α : Type} {o : Nat → Int64} {b : Int64} {t : Option α} (h : o 0 = b) : (if True then (if True then gd 0 1 (if (lg_cmp (o (0 : Int32).toNatClampNeg) b) = 0 then t else none) else t) else none) = t := by
  rw [if_pos trivial, if_pos trivial, gd_1 (by decide) (by decide), if_pos]
  rw [show (0 : Int32).toNatClampNeg = 0 from rfl, h]
  exact lgc_self b
set_option maxRecDepth 4000 in
theorem cs_5 (PL : (Nat → Int32) → (Nat → Int32) → (Nat → Int32) → (Nat → Int64) → (Nat → Int64) → (Nat → Int32) → Prop) (cp1_acts : Int32) (cp1_nextSlot : Int32) (cp1_now_today : Int32) (cp1_now_products : Int32) (cp1_now_itemCount : Int32) (cp1_now_items : Nat → Int32) (cp1_now_books : Nat → Int32) (cp1_now_terms : Nat → Int32) (cp1_now_shelves_lanes : Int32) (cp1_now_shelves_positions : Int32) (cp1_now_shelves_room : Int32) (cp1_now_shelves_gap : Int32) (cp1_now_shelves_places : Int32) (cp1_now_shelves_picked : Int64) (cp1_now_shelves_lot : Nat → Int32) (cp1_now_shelves_pieces : Nat → Int32) (cp1_now_shelves_mark : Nat → Int32) (cp1_now_shelves_byDistance : Nat → Int32) (cp1_now_lots_count : Int32) (cp1_now_lots_product : Nat → Int32) (cp1_now_lots_last : Nat → Int32) (cp1_now_lots_cost : Nat → Int32) (cp1_now_lots_state : Nat → Int32) (cp1_now_lots_byLast : Nat → Int32) (cp1_now_orders_count : Int32) (cp1_now_orders_gifts : Int32) (cp1_now_orders_customer : Nat → Int32) (cp1_now_orders_product : Nat → Int32) (cp1_now_orders_open : Nat → Int32) (cp1_now_orders_due : Nat → Int32) (cp1_now_orders_life : Nat → Int32) (cp1_now_orders_byDue : Nat → Int32) (cp1_now_orders_had : Nat → Int32) (cp1_now_orders_stamps : Nat → Int32) (cp1_hk : Nat) (cp1_st : Nat → StT) (cp1_plan_terms : Nat → Int32) (cp1_plan_low : Nat → Int32) (cp1_plan_high : Nat → Int32) (cp1_plan_bottom : Nat → Int64) (cp1_plan_cost : Nat → Int64) (cp1_plan_act : Nat → Int32) (cp1_picker_deepest : Int32) (cp1_picker_shallowest : Int32) (cp1_picker_widest : Int32) (cp1_picker_least : Nat → Int32) (cp1_picker_next : Nat → Int32) (cp1_rest : Nat → Int32) (cp1_packed : Nat → Int32) (cp2_raised : Int32) (cp2_undos : Int32) (cp2_eldest : Int32) (cp2_w : Nat → Int32) (cp2_kept : Nat → Int32) (cp2_copy : Nat → Int32) (cp2_near : Nat → Int32) (cp2_isDone : Nat → Int32) (cp2_lane : Nat → Int32) (cp2_position : Nat → Int32) (cp2_least : Nat → Int32) (cp2_boxesOf : Nat → Int32) (cp2_staying : Nat → Int64) (cp2_planned : Nat → Int64) (cp2_scale : Nat → Int64) (cp3 : Nat → Int64) (v1 v2 v3 v4 v5 : Int32) (hR : RC PL (cp1_now_today, cp1_now_products, cp1_now_itemCount, cp1_now_items, cp1_now_books, cp1_now_terms, cp1_now_shelves_lanes, cp1_now_shelves_positions, cp1_now_shelves_room, cp1_now_shelves_gap, cp1_now_shelves_places, cp1_now_shelves_picked, cp1_now_shelves_lot, cp1_now_shelves_pieces, cp1_now_shelves_mark, cp1_now_shelves_byDistance, cp1_now_lots_count, cp1_now_lots_product, cp1_now_lots_last, cp1_now_lots_cost, cp1_now_lots_state, cp1_now_lots_byLast, cp1_now_orders_count, cp1_now_orders_gifts, cp1_now_orders_customer, cp1_now_orders_product, cp1_now_orders_open, cp1_now_orders_due, cp1_now_orders_life, cp1_now_orders_byDue, cp1_now_orders_had, cp1_now_orders_stamps) cp2_w cp2_near cp1_acts cp1_nextSlot cp1_hk cp1_st cp2_undos cp2_eldest cp2_kept cp1_plan_terms cp1_plan_low cp1_plan_high cp1_plan_bottom cp1_plan_cost cp1_plan_act) : ∃ z', f_c5 v1 v2 v3 v4 v5 (cp1_acts, cp1_nextSlot, cp1_now_today, cp1_now_products, cp1_now_itemCount, cp1_now_items, cp1_now_books, cp1_now_terms, cp1_now_shelves_lanes, cp1_now_shelves_positions, cp1_now_shelves_room, cp1_now_shelves_gap, cp1_now_shelves_places, cp1_now_shelves_picked, cp1_now_shelves_lot, cp1_now_shelves_pieces, cp1_now_shelves_mark, cp1_now_shelves_byDistance, cp1_now_lots_count, cp1_now_lots_product, cp1_now_lots_last, cp1_now_lots_cost, cp1_now_lots_state, cp1_now_lots_byLast, cp1_now_orders_count, cp1_now_orders_gifts, cp1_now_orders_customer, cp1_now_orders_product, cp1_now_orders_open, cp1_now_orders_due, cp1_now_orders_life, cp1_now_orders_byDue, cp1_now_orders_had, cp1_now_orders_stamps, cp1_hk, cp1_st, cp1_plan_terms, cp1_plan_low, cp1_plan_high, cp1_plan_bottom, cp1_plan_cost, cp1_plan_act, cp1_picker_deepest, cp1_picker_shallowest, cp1_picker_widest, cp1_picker_least, cp1_picker_next, cp1_rest, cp1_packed, cp2_raised, cp2_undos, cp2_eldest, cp2_w, cp2_kept, cp2_copy, cp2_near, cp2_isDone, cp2_lane, cp2_position, cp2_least, cp2_boxesOf, cp2_staying, cp2_planned, cp2_scale, cp3) = some z' ∧ R PL z' := by
  have hS := hR.1
  rw [RS_mk] at hS
  obtain ⟨a1, a2, a3, a4, a5, a6, a7, a8, a9, a10, a11, a12, a13, a14, a15⟩ := hS
  have a0 := a1
  obtain ⟨d0, d1, d2, d3, d4, d5, d6, d7, d8, d9, d10, d11, d12, d13, d14, d15, d16, d17, d18, d19, d20, d21, d22, d23, d24, d25, d26⟩ := a0
  obtain ⟨a', ns', hk', st', u', e', k', m1, m2, m3⟩ := remember_keep hR.1 hR.2.2.1
  have m1 : f_X7_remember cp1_acts cp1_nextSlot cp1_hk cp1_st cp1_now_today cp1_now_products cp1_now_itemCount cp1_now_items cp1_now_books cp1_now_terms cp1_now_shelves_lanes cp1_now_shelves_positions cp1_now_shelves_room cp1_now_shelves_gap cp1_now_shelves_places cp1_now_shelves_picked cp1_now_shelves_lot cp1_now_shelves_pieces cp1_now_shelves_mark cp1_now_shelves_byDistance cp1_now_lots_count cp1_now_lots_product cp1_now_lots_last cp1_now_lots_cost cp1_now_lots_state cp1_now_lots_byLast cp1_now_orders_count cp1_now_orders_gifts cp1_now_orders_customer cp1_now_orders_product cp1_now_orders_open cp1_now_orders_due cp1_now_orders_life cp1_now_orders_byDue cp1_now_orders_had cp1_now_orders_stamps = some (a', ns', hk', st') := m1
  by_cases hp : 6 ≤ cp1_now_products
  · have h1 : f_W_addProduct cp1_acts cp1_nextSlot cp1_hk cp1_st cp1_now_today cp1_now_products cp1_now_itemCount cp1_now_items cp1_now_books cp1_now_terms cp1_now_shelves_lanes cp1_now_shelves_positions cp1_now_shelves_room cp1_now_shelves_gap cp1_now_shelves_places cp1_now_shelves_picked cp1_now_shelves_lot cp1_now_shelves_pieces cp1_now_shelves_mark cp1_now_shelves_byDistance cp1_now_lots_count cp1_now_lots_product cp1_now_lots_last cp1_now_lots_cost cp1_now_lots_state cp1_now_lots_byLast cp1_now_orders_count cp1_now_orders_gifts cp1_now_orders_customer cp1_now_orders_product cp1_now_orders_open cp1_now_orders_due cp1_now_orders_life cp1_now_orders_byDue cp1_now_orders_had cp1_now_orders_stamps cp3 = some (1, cp1_acts, cp1_nextSlot, cp1_hk, cp1_st, cp1_now_products, cp3) := by
      unfold f_W_addProduct f_X7_addProduct f_X7_addProduct_J17
      simp only [if_pos hp, n_needState, bnd1, bnd6, Option.bind_some, mx, ↓reduceIte]
    have h2 : f_Y8_addProduct cp2_raised cp2_undos cp2_eldest cp2_w cp2_kept = some (0, 1, cp2_undos, cp2_eldest, cp2_w, cp2_kept) := by
      unfold f_Y8_addProduct f_Y8_addProduct_J17
      rw [gd_2450 (by decide) (by decide), show ((5 : Int32).toNatClampNeg) = 5 from rfl, d18, if_pos hp, can_f0]
      rfl
    refine ⟨?w, ?h1, ?h2⟩
    case h1 =>
      rw [fc_5, h1]
      simp only [bnd7, Option.bind_some]
      rw [h2]
      simp only [bnd1, bnd6, Option.bind_some, f_Y8_thrown]
      exact fin_1 one_ne
    case h2 => rw [R_mk]; exact hR
  · have h1 : f_W_addProduct cp1_acts cp1_nextSlot cp1_hk cp1_st cp1_now_today cp1_now_products cp1_now_itemCount cp1_now_items cp1_now_books cp1_now_terms cp1_now_shelves_lanes cp1_now_shelves_positions cp1_now_shelves_room cp1_now_shelves_gap cp1_now_shelves_places cp1_now_shelves_picked cp1_now_shelves_lot cp1_now_shelves_pieces cp1_now_shelves_mark cp1_now_shelves_byDistance cp1_now_lots_count cp1_now_lots_product cp1_now_lots_last cp1_now_lots_cost cp1_now_lots_state cp1_now_lots_byLast cp1_now_orders_count cp1_now_orders_gifts cp1_now_orders_customer cp1_now_orders_product cp1_now_orders_open cp1_now_orders_due cp1_now_orders_life cp1_now_orders_byDue cp1_now_orders_had cp1_now_orders_stamps cp3 = some (0, a', ns', hk', st', cp1_now_products + 1, vp_updL cp3 (0 : Int32).toNatClampNeg (cp1_now_products + 1 - 1).toInt64) := by
      unfold f_W_addProduct f_X7_addProduct f_X7_addProduct_J17
      rw [if_neg hp, n_needState, m1]
      simp only [bnd1, bnd4, bnd6, Option.bind_some, mx, if_neg one_ne]
      exact gd_1 (by decide) (by decide)
    have h2 : f_Y8_addProduct cp2_raised cp2_undos cp2_eldest cp2_w cp2_kept = some (cp1_now_products + 1 - 1, 0, u', e', upd cp2_w (5 : Int32).toNatClampNeg (cp1_now_products + 1), k') := by
      unfold f_Y8_addProduct f_Y8_addProduct_J17
      rw [gd_2450 (by decide) (by decide), show ((5 : Int32).toNatClampNeg) = 5 from rfl, d18, if_neg hp, can_t, m2]
      simp only [bnd2, bnd3, Option.bind_some]
      rw [if_neg one_ne, gd_2450 (by decide) (by decide), gd_2450 (by decide) (by decide), gd_2450 (by decide) (by decide)]
      rfl
    refine ⟨?w2, ?h3, ?h4⟩
    case h3 =>
      rw [fc_5, h1]
      simp only [bnd7, Option.bind_some]
      rw [h2]
      simp only [bnd1, bnd6, Option.bind_some, f_Y8_thrown]
      refine fin_0 ?_
      rfl
    case h4 =>
      rw [R_mk]
      refine ⟨?_, hR.2.1, m3, hR.2.2.2⟩
      rw [RS_mk]
      have a5' : QL cp1_now_lots_count (cp1_now_products + 1) cp1_now_lots_product cp1_now_lots_last cp1_now_lots_cost cp1_now_lots_state cp2_w := by
        intro n n1 n2
        obtain ⟨b1, b2, b3, b4⟩ := a5 n n1 n2
        exact ⟨b1, b2, by clear hR m1 m2 m3; grind, b4⟩
      have a7' : QO cp1_now_orders_count (cp1_now_products + 1) cp1_now_orders_customer cp1_now_orders_product cp1_now_orders_open cp1_now_orders_due cp1_now_orders_life cp2_w := by
        intro n n1 n2
        obtain ⟨b1, b2, b3, b4, b5, b6, b7⟩ := a7 n n1 n2
        exact ⟨b1, b2, b3, b4, b5, by clear hR m1 m2 m3; grind, b7⟩
      refine ⟨⟨d0, d1, d2, d3, d4, d5, d6, d7, d8, d9, d10, d11, d12, d13, d14, d15, d16, d17, rfl, by clear hR m1 m2 m3; grind, by clear hR m1 m2 m3; grind, d21, d22, d23, d24, d25, d26⟩, QB_ag (AG.rf.up (by decide) (by decide) (by decide)) a2, QP_ag d17 (AG.rf.up (by decide) (by decide) (by decide)) a3, QK_ag (AG.rf.up (by decide) (by decide) (by decide)) a4, QL_ag d23 (AG.rf.up (by decide) (by decide) (by decide)) a5', a6, QO_ag d26 (AG.rf.up (by decide) (by decide) (by decide)) a7', a8, QH_ag d26 (AG.rf.up (by decide) (by decide) (by decide)) a9, QG_ag d25 d26 (AG.rf.up (by decide) (by decide) (by decide)) (AG.rf.up (by decide) (by decide) (by decide)) a10, a11, QI_ag (AG.rf.up (by decide) (by decide) (by decide)) a12, QT_ag (AG.rf.up (by decide) (by decide) (by decide)) a13, a14, a15⟩
