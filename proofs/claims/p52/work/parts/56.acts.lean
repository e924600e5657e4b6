theorem zsum_upd (f : Nat → Int32) (i : Nat) (v : Int32) : ∀ k : Nat, zsum (upd f i v) k = zsum f k + if i < k then v.toInt - (f i).toInt else 0 := by
  intro k
  induction k with
  | zero => rfl
  | succ k ih =>
    unfold zsum
    rw [ih]
    unfold upd
    by_cases h : k = i
    · subst h
      rw [if_pos rfl, if_neg (Nat.lt_irrefl k), if_pos (Nat.lt_succ_self k)]; omega
    · rw [if_neg h]
      by_cases h2 : i < k
      · rw [if_pos h2, if_pos (by omega)]; omega
      · rw [if_neg h2, if_neg (by omega)]; omega
set_option maxRecDepth 4000 in
theorem cs_32 (PL : (Nat → Int32) → (Nat → Int32) → (Nat → Int32) → (Nat → Int64) → (Nat → Int64) → (Nat → Int32) → Prop) (cp1_acts : Int32) (cp1_nextSlot : Int32) (cp1_now_today : Int32) (cp1_now_products : Int32) (cp1_now_itemCount : Int32) (cp1_now_items : Nat → Int32) (cp1_now_books : Nat → Int32) (cp1_now_terms : Nat → Int32) (cp1_now_shelves_lanes : Int32) (cp1_now_shelves_positions : Int32) (cp1_now_shelves_room : Int32) (cp1_now_shelves_gap : Int32) (cp1_now_shelves_places : Int32) (cp1_now_shelves_picked : Int64) (cp1_now_shelves_lot : Nat → Int32) (cp1_now_shelves_pieces : Nat → Int32) (cp1_now_shelves_mark : Nat → Int32) (cp1_now_shelves_byDistance : Nat → Int32) (cp1_now_lots_count : Int32) (cp1_now_lots_product : Nat → Int32) (cp1_now_lots_last : Nat → Int32) (cp1_now_lots_cost : Nat → Int32) (cp1_now_lots_state : Nat → Int32) (cp1_now_lots_byLast : Nat → Int32) (cp1_now_orders_count : Int32) (cp1_now_orders_gifts : Int32) (cp1_now_orders_customer : Nat → Int32) (cp1_now_orders_product : Nat → Int32) (cp1_now_orders_open : Nat → Int32) (cp1_now_orders_due : Nat → Int32) (cp1_now_orders_life : Nat → Int32) (cp1_now_orders_byDue : Nat → Int32) (cp1_now_orders_had : Nat → Int32) (cp1_now_orders_stamps : Nat → Int32) (cp1_hk : Nat) (cp1_st : Nat → StT) (cp1_plan_terms : Nat → Int32) (cp1_plan_low : Nat → Int32) (cp1_plan_high : Nat → Int32) (cp1_plan_bottom : Nat → Int64) (cp1_plan_cost : Nat → Int64) (cp1_plan_act : Nat → Int32) (cp1_picker_deepest : Int32) (cp1_picker_shallowest : Int32) (cp1_picker_widest : Int32) (cp1_picker_least : Nat → Int32) (cp1_picker_next : Nat → Int32) (cp1_rest : Nat → Int32) (cp1_packed : Nat → Int32) (cp2_raised : Int32) (cp2_undos : Int32) (cp2_eldest : Int32) (cp2_w : Nat → Int32) (cp2_kept : Nat → Int32) (cp2_copy : Nat → Int32) (cp2_near : Nat → Int32) (cp2_isDone : Nat → Int32) (cp2_lane : Nat → Int32) (cp2_position : Nat → Int32) (cp2_least : Nat → Int32) (cp2_boxesOf : Nat → Int32) (cp2_staying : Nat → Int64) (cp2_planned : Nat → Int64) (cp2_scale : Nat → Int64) (cp3 : Nat → Int64) (v1 v2 v3 v4 v5 : Int32) (hR : RC PL (cp1_now_today, cp1_now_products, cp1_now_itemCount, cp1_now_items, cp1_now_books, cp1_now_terms, cp1_now_shelves_lanes, cp1_now_shelves_positions, cp1_now_shelves_room, cp1_now_shelves_gap, cp1_now_shelves_places, cp1_now_shelves_picked, cp1_now_shelves_lot, cp1_now_shelves_pieces, cp1_now_shelves_mark, cp1_now_shelves_byDistance, cp1_now_lots_count, cp1_now_lots_product, cp1_now_lots_last, cp1_now_lots_cost, cp1_now_lots_state, cp1_now_lots_byLast, cp1_now_orders_count, cp1_now_orders_gifts, cp1_now_orders_customer, cp1_now_orders_product, cp1_now_orders_open, cp1_now_orders_due, cp1_now_orders_life, cp1_now_orders_byDue, cp1_now_orders_had, cp1_now_orders_stamps) cp2_w cp2_near cp1_acts cp1_nextSlot cp1_hk cp1_st cp2_undos cp2_eldest cp2_kept cp1_plan_terms cp1_plan_low cp1_plan_high cp1_plan_bottom cp1_plan_cost cp1_plan_act) : ∃ z', f_c32 v1 v2 v3 v4 v5 (cp1_acts, cp1_nextSlot, cp1_now_today, cp1_now_products, cp1_now_itemCount, cp1_now_items, cp1_now_books, cp1_now_terms, cp1_now_shelves_lanes, cp1_now_shelves_positions, cp1_now_shelves_room, cp1_now_shelves_gap, cp1_now_shelves_places, cp1_now_shelves_picked, cp1_now_shelves_lot, cp1_now_shelves_pieces, cp1_now_shelves_mark, cp1_now_shelves_byDistance, cp1_now_lots_count, cp1_now_lots_product, cp1_now_lots_last, cp1_now_lots_cost, cp1_now_lots_state, cp1_now_lots_byLast, cp1_now_orders_count, cp1_now_orders_gifts, cp1_now_orders_customer, cp1_now_orders_product, cp1_now_orders_open, cp1_now_orders_due, cp1_now_orders_life, cp1_now_orders_byDue, cp1_now_orders_had, cp1_now_orders_stamps, cp1_hk, cp1_st, cp1_plan_terms, cp1_plan_low, cp1_plan_high, cp1_plan_bottom, cp1_plan_cost, cp1_plan_act, cp1_picker_deepest, cp1_picker_shallowest, cp1_picker_widest, cp1_picker_least, cp1_picker_next, cp1_rest, cp1_packed, cp2_raised, cp2_undos, cp2_eldest, cp2_w, cp2_kept, cp2_copy, cp2_near, cp2_isDone, cp2_lane, cp2_position, cp2_least, cp2_boxesOf, cp2_staying, cp2_planned, cp2_scale, cp3) = some z' ∧ R PL z' := by
  have hS := hR.1
  rw [RS_mk] at hS
  obtain ⟨a1, a2, a3, a4, a5, a6, a7, a8, a9, a10, a11, a12, a13, a14, a15⟩ := hS
  have a0 := a1
  obtain ⟨d0, d1, d2, d3, d4, d5, d6, d7, d8, d9, d10, d11, d12, d13, d14, d15, d16, d17, d18, d19, d20, d21, d22, d23, d24, d25, d26⟩ := a0
  obtain ⟨a', ns', hk', st', u', e', k', m1, m2, m3⟩ := remember_keep hR.1 hR.2.2.1
  have m1 : f_X7_remember cp1_acts cp1_nextSlot cp1_hk cp1_st cp1_now_today cp1_now_products cp1_now_itemCount cp1_now_items cp1_now_books cp1_now_terms cp1_now_shelves_lanes cp1_now_shelves_positions cp1_now_shelves_room cp1_now_shelves_gap cp1_now_shelves_places cp1_now_shelves_picked cp1_now_shelves_lot cp1_now_shelves_pieces cp1_now_shelves_mark cp1_now_shelves_byDistance cp1_now_lots_count cp1_now_lots_product cp1_now_lots_last cp1_now_lots_cost cp1_now_lots_state cp1_now_lots_byLast cp1_now_orders_count cp1_now_orders_gifts cp1_now_orders_customer cp1_now_orders_product cp1_now_orders_open cp1_now_orders_due cp1_now_orders_life cp1_now_orders_byDue cp1_now_orders_had cp1_now_orders_stamps = some (a', ns', hk', st') := m1
  obtain ⟨i0, i1, i2, i3⟩ := a12
  by_cases c1 : 1 ≤ v1 ∧ v1 ≤ 20
  rotate_left
  · skip
    have h1 : f_W_addItem v1 cp1_acts cp1_nextSlot cp1_hk cp1_st cp1_now_today cp1_now_products cp1_now_itemCount cp1_now_items cp1_now_books cp1_now_terms cp1_now_shelves_lanes cp1_now_shelves_positions cp1_now_shelves_room cp1_now_shelves_gap cp1_now_shelves_places cp1_now_shelves_picked cp1_now_shelves_lot cp1_now_shelves_pieces cp1_now_shelves_mark cp1_now_shelves_byDistance cp1_now_lots_count cp1_now_lots_product cp1_now_lots_last cp1_now_lots_cost cp1_now_lots_state cp1_now_lots_byLast cp1_now_orders_count cp1_now_orders_gifts cp1_now_orders_customer cp1_now_orders_product cp1_now_orders_open cp1_now_orders_due cp1_now_orders_life cp1_now_orders_byDue cp1_now_orders_had cp1_now_orders_stamps cp3 = some (1, cp1_acts, cp1_nextSlot, cp1_hk, cp1_st, cp1_now_itemCount, cp1_now_items, cp3) := by
      unfold f_W_addItem f_X7_addItem f_X7_addItem_J24
      rw [n_range, if_neg c1]
      simp only [bnd1, bnd7, Option.bind_some, mx, ↓reduceIte]
    have h2 : f_Y8_addItem v1 cp2_raised cp2_undos cp2_eldest cp2_w cp2_kept = some (0, 1, cp2_undos, cp2_eldest, cp2_w, cp2_kept) := by
      unfold f_Y8_addItem f_Y8_addItem_J34
      rw [n_in, if_neg c1]
      simp only [bnd1, bnd2, Option.bind_some, can_f0, ↓reduceIte]
    refine ⟨?wa, ?pa, ?qa⟩
    case pa =>
      rw [fc_32, h1]
      simp only [bnd8, Option.bind_some]
      rw [h2]
      simp only [bnd1, bnd6, Option.bind_some, f_Y8_thrown]
      exact fin_1 (show ¬ (1 : Int32) = 0 by decide)
    case qa =>
      rw [R_mk]
      exact hR
  by_cases c2 : 8 ≤ cp1_now_itemCount
  · skip
    have h1 : f_W_addItem v1 cp1_acts cp1_nextSlot cp1_hk cp1_st cp1_now_today cp1_now_products cp1_now_itemCount cp1_now_items cp1_now_books cp1_now_terms cp1_now_shelves_lanes cp1_now_shelves_positions cp1_now_shelves_room cp1_now_shelves_gap cp1_now_shelves_places cp1_now_shelves_picked cp1_now_shelves_lot cp1_now_shelves_pieces cp1_now_shelves_mark cp1_now_shelves_byDistance cp1_now_lots_count cp1_now_lots_product cp1_now_lots_last cp1_now_lots_cost cp1_now_lots_state cp1_now_lots_byLast cp1_now_orders_count cp1_now_orders_gifts cp1_now_orders_customer cp1_now_orders_product cp1_now_orders_open cp1_now_orders_due cp1_now_orders_life cp1_now_orders_byDue cp1_now_orders_had cp1_now_orders_stamps cp3 = some (2, cp1_acts, cp1_nextSlot, cp1_hk, cp1_st, cp1_now_itemCount, cp1_now_items, cp3) := by
      unfold f_W_addItem f_X7_addItem f_X7_addItem_J24
      rw [n_range, if_pos c1]
      simp only [bnd1, bnd7, Option.bind_some, mx, if_pos c2, n_needState, ↓reduceIte, String.reduceEq]
    have h2 : f_Y8_addItem v1 cp2_raised cp2_undos cp2_eldest cp2_w cp2_kept = some (0, 2, cp2_undos, cp2_eldest, cp2_w, cp2_kept) := by
      unfold f_Y8_addItem f_Y8_addItem_J34
      rw [n_in, if_pos c1]
      simp only [bnd1, bnd2, Option.bind_some, can_t]
      rw [if_neg one_ne, gd_2450 (by decide) (by decide), show ((2423 : Int32).toNatClampNeg) = 2423 from rfl, i0, if_pos c2]
      simp only [Option.bind_some, can_f0, ↓reduceIte]
    refine ⟨?wb, ?pb, ?qb⟩
    case pb =>
      rw [fc_32, h1]
      simp only [bnd8, Option.bind_some]
      rw [h2]
      simp only [bnd1, bnd6, Option.bind_some, f_Y8_thrown]
      exact fin_1 (show ¬ (2 : Int32) = 0 by decide)
    case qb =>
      rw [R_mk]
      exact hR
  · skip
    have c3 : cp1_now_itemCount < 8 := by clear hR m1 m2 m3; grind
    have h1 : f_W_addItem v1 cp1_acts cp1_nextSlot cp1_hk cp1_st cp1_now_today cp1_now_products cp1_now_itemCount cp1_now_items cp1_now_books cp1_now_terms cp1_now_shelves_lanes cp1_now_shelves_positions cp1_now_shelves_room cp1_now_shelves_gap cp1_now_shelves_places cp1_now_shelves_picked cp1_now_shelves_lot cp1_now_shelves_pieces cp1_now_shelves_mark cp1_now_shelves_byDistance cp1_now_lots_count cp1_now_lots_product cp1_now_lots_last cp1_now_lots_cost cp1_now_lots_state cp1_now_lots_byLast cp1_now_orders_count cp1_now_orders_gifts cp1_now_orders_customer cp1_now_orders_product cp1_now_orders_open cp1_now_orders_due cp1_now_orders_life cp1_now_orders_byDue cp1_now_orders_had cp1_now_orders_stamps cp3 = some (0, a', ns', hk', st', cp1_now_itemCount + 1, upd cp1_now_items cp1_now_itemCount.toNatClampNeg v1, vp_updL cp3 (0 : Int32).toNatClampNeg (cp1_now_itemCount + 1).toInt64) := by
      unfold f_W_addItem f_X7_addItem f_X7_addItem_J24
      rw [n_range, if_pos c1]
      simp only [bnd1, bnd4, bnd7, Option.bind_some, mx, if_neg c2, n_needState, if_neg one_ne]
      rw [m1]
      simp only [Option.bind_some]
      rw [gd_8 i1 c3]
      simp only [Option.bind_some]
      rw [gd_1 (by decide) (by decide)]
    have e5 : upd cp2_w (2424 + cp1_now_itemCount).toNatClampNeg v1 2423 = cp1_now_itemCount := by
      rw [show (2423 : Nat) = (2423 : Int32).toNatClampNeg from rfl, upd_ne (by clear hR m1 m2 m3; grind) (by decide) (by clear hR m1 m2 m3; grind)]; exact i0
    have h2 : f_Y8_addItem v1 cp2_raised cp2_undos cp2_eldest cp2_w cp2_kept = some (cp1_now_itemCount + 1, 0, u', e', upd (upd cp2_w (2424 + cp1_now_itemCount).toNatClampNeg v1) (2423 : Int32).toNatClampNeg (cp1_now_itemCount + 1), k') := by
      unfold f_Y8_addItem f_Y8_addItem_J34
      rw [n_in, if_pos c1]
      simp only [bnd1, bnd2, bnd3, Option.bind_some, can_t]
      rw [if_neg one_ne, gd_2450 (by decide) (by decide), show ((2423 : Int32).toNatClampNeg) = 2423 from rfl, i0, if_neg c2]
      rw [if_neg one_ne, m2]
      simp only [Option.bind_some]
      rw [gd_2450 (by decide) (by decide), gd_2450 (by clear hR m1 m2 m3; grind) (by clear hR m1 m2 m3; grind), gd_2450 (by decide) (by decide), gd_2450 (by decide) (by decide), gd_2450 (by decide) (by decide), e5]
      rfl
    have hAG : ∀ A B : Int32, 0 ≤ A → (B ≤ 2423 ∨ 2432 ≤ A) → AG A B cp2_w (upd (upd cp2_w (2424 + cp1_now_itemCount).toNatClampNeg v1) (2423 : Int32).toNatClampNeg (cp1_now_itemCount + 1)) := fun A B hA h => (AG.rf.up hA (by clear hR m1 m2 m3; grind) (by clear hR m1 m2 m3; grind)).up hA (by decide) (by clear hR m1 m2 m3; grind)
    have q12 : QI (cp1_now_itemCount + 1) (upd cp1_now_items cp1_now_itemCount.toNatClampNeg v1) (upd (upd cp2_w (2424 + cp1_now_itemCount).toNatClampNeg v1) (2423 : Int32).toNatClampNeg (cp1_now_itemCount + 1)) := by
      refine ⟨rfl, by clear hR m1 m2 m3; grind, by clear hR m1 m2 m3; grind, ?_⟩
      intro n n1 n2
      unfold ix
      rw [upd_ne (by decide) (by clear hR m1 m2 m3; grind) (by clear hR m1 m2 m3; grind), upd_at (by clear hR m1 m2 m3; grind) (by clear hR m1 m2 m3; grind), upd_at i1 n1]
      by_cases hn : n = cp1_now_itemCount
      · rw [if_pos (by rw [hn]), if_pos hn]; exact ⟨rfl, c1.1, c1.2⟩
      · rw [if_neg (by clear hR m1 m2 m3; grind), if_neg hn]; exact i3 n n1 (by clear hR m1 m2 m3; grind)
    refine ⟨?wc, ?pc, ?qc⟩
    case pc =>
      rw [fc_32, h1]
      simp only [bnd8, Option.bind_some]
      rw [h2]
      simp only [bnd1, bnd6, Option.bind_some, f_Y8_thrown]
      refine fin_0 ?_
      rfl
    case qc =>
      rw [R_mk]
      refine ⟨?_, hR.2.1, m3, hR.2.2.2⟩
      rw [RS_mk]
      exact ⟨QD_ag (hAG _ _ (by decide) (by decide)) a1, QB_ag (hAG _ _ (by decide) (by decide)) a2, QP_ag d17 (hAG _ _ (by decide) (by decide)) a3, QK_ag (hAG _ _ (by decide) (by decide)) a4, QL_ag d23 (hAG _ _ (by decide) (by decide)) a5, a6, QO_ag d26 (hAG _ _ (by decide) (by decide)) a7, a8, QH_ag d26 (hAG _ _ (by decide) (by decide)) a9, QG_ag d25 d26 (hAG _ _ (by decide) (by decide)) (hAG _ _ (by decide) (by decide)) a10, a11, q12, QT_ag (hAG _ _ (by decide) (by decide)) a13, a14, a15⟩

set_option maxRecDepth 4000 in
theorem cs_33 (PL : (Nat → Int32) → (Nat → Int32) → (Nat → Int32) → (Nat → Int64) → (Nat → Int64) → (Nat → Int32) → Prop) (cp1_acts : Int32) (cp1_nextSlot : Int32) (cp1_now_today : Int32) (cp1_now_products : Int32) (cp1_now_itemCount : Int32) (cp1_now_items : Nat → Int32) (cp1_now_books : Nat → Int32) (cp1_now_terms : Nat → Int32) (cp1_now_shelves_lanes : Int32) (cp1_now_shelves_positions : Int32) (cp1_now_shelves_room : Int32) (cp1_now_shelves_gap : Int32) (cp1_now_shelves_places : Int32) (cp1_now_shelves_picked : Int64) (cp1_now_shelves_lot : Nat → Int32) (cp1_now_shelves_pieces : Nat → Int32) (cp1_now_shelves_mark : Nat → Int32) (cp1_now_shelves_byDistance : Nat → Int32) (cp1_now_lots_count : Int32) (cp1_now_lots_product : Nat → Int32) (cp1_now_lots_last : Nat → Int32) (cp1_now_lots_cost : Nat → Int32) (cp1_now_lots_state : Nat → Int32) (cp1_now_lots_byLast : Nat → Int32) (cp1_now_orders_count : Int32) (cp1_now_orders_gifts : Int32) (cp1_now_orders_customer : Nat → Int32) (cp1_now_orders_product : Nat → Int32) (cp1_now_orders_open : Nat → Int32) (cp1_now_orders_due : Nat → Int32) (cp1_now_orders_life : Nat → Int32) (cp1_now_orders_byDue : Nat → Int32) (cp1_now_orders_had : Nat → Int32) (cp1_now_orders_stamps : Nat → Int32) (cp1_hk : Nat) (cp1_st : Nat → StT) (cp1_plan_terms : Nat → Int32) (cp1_plan_low : Nat → Int32) (cp1_plan_high : Nat → Int32) (cp1_plan_bottom : Nat → Int64) (cp1_plan_cost : Nat → Int64) (cp1_plan_act : Nat → Int32) (cp1_picker_deepest : Int32) (cp1_picker_shallowest : Int32) (cp1_picker_widest : Int32) (cp1_picker_least : Nat → Int32) (cp1_picker_next : Nat → Int32) (cp1_rest : Nat → Int32) (cp1_packed : Nat → Int32) (cp2_raised : Int32) (cp2_undos : Int32) (cp2_eldest : Int32) (cp2_w : Nat → Int32) (cp2_kept : Nat → Int32) (cp2_copy : Nat → Int32) (cp2_near : Nat → Int32) (cp2_isDone : Nat → Int32) (cp2_lane : Nat → Int32) (cp2_position : Nat → Int32) (cp2_least : Nat → Int32) (cp2_boxesOf : Nat → Int32) (cp2_staying : Nat → Int64) (cp2_planned : Nat → Int64) (cp2_scale : Nat → Int64) (cp3 : Nat → Int64) (v1 v2 v3 v4 v5 : Int32) (hR : RC PL (cp1_now_today, cp1_now_products, cp1_now_itemCount, cp1_now_items, cp1_now_books, cp1_now_terms, cp1_now_shelves_lanes, cp1_now_shelves_positions, cp1_now_shelves_room, cp1_now_shelves_gap, cp1_now_shelves_places, cp1_now_shelves_picked, cp1_now_shelves_lot, cp1_now_shelves_pieces, cp1_now_shelves_mark, cp1_now_shelves_byDistance, cp1_now_lots_count, cp1_now_lots_product, cp1_now_lots_last, cp1_now_lots_cost, cp1_now_lots_state, cp1_now_lots_byLast, cp1_now_orders_count, cp1_now_orders_gifts, cp1_now_orders_customer, cp1_now_orders_product, cp1_now_orders_open, cp1_now_orders_due, cp1_now_orders_life, cp1_now_orders_byDue, cp1_now_orders_had, cp1_now_orders_stamps) cp2_w cp2_near cp1_acts cp1_nextSlot cp1_hk cp1_st cp2_undos cp2_eldest cp2_kept cp1_plan_terms cp1_plan_low cp1_plan_high cp1_plan_bottom cp1_plan_cost cp1_plan_act) : ∃ z', f_c33 v1 v2 v3 v4 v5 (cp1_acts, cp1_nextSlot, cp1_now_today, cp1_now_products, cp1_now_itemCount, cp1_now_items, cp1_now_books, cp1_now_terms, cp1_now_shelves_lanes, cp1_now_shelves_positions, cp1_now_shelves_room, cp1_now_shelves_gap, cp1_now_shelves_places, cp1_now_shelves_picked, cp1_now_shelves_lot, cp1_now_shelves_pieces, cp1_now_shelves_mark, cp1_now_shelves_byDistance, cp1_now_lots_count, cp1_now_lots_product, cp1_now_lots_last, cp1_now_lots_cost, cp1_now_lots_state, cp1_now_lots_byLast, cp1_now_orders_count, cp1_now_orders_gifts, cp1_now_orders_customer, cp1_now_orders_product, cp1_now_orders_open, cp1_now_orders_due, cp1_now_orders_life, cp1_now_orders_byDue, cp1_now_orders_had, cp1_now_orders_stamps, cp1_hk, cp1_st, cp1_plan_terms, cp1_plan_low, cp1_plan_high, cp1_plan_bottom, cp1_plan_cost, cp1_plan_act, cp1_picker_deepest, cp1_picker_shallowest, cp1_picker_widest, cp1_picker_least, cp1_picker_next, cp1_rest, cp1_packed, cp2_raised, cp2_undos, cp2_eldest, cp2_w, cp2_kept, cp2_copy, cp2_near, cp2_isDone, cp2_lane, cp2_position, cp2_least, cp2_boxesOf, cp2_staying, cp2_planned, cp2_scale, cp3) = some z' ∧ R PL z' := by
  have hS := hR.1
  rw [RS_mk] at hS
  obtain ⟨a1, a2, a3, a4, a5, a6, a7, a8, a9, a10, a11, a12, a13, a14, a15⟩ := hS
  have a0 := a1
  obtain ⟨d0, d1, d2, d3, d4, d5, d6, d7, d8, d9, d10, d11, d12, d13, d14, d15, d16, d17, d18, d19, d20, d21, d22, d23, d24, d25, d26⟩ := a0
  obtain ⟨a', ns', hk', st', u', e', k', m1, m2, m3⟩ := remember_keep hR.1 hR.2.2.1
  have m1 : f_X7_remember cp1_acts cp1_nextSlot cp1_hk cp1_st cp1_now_today cp1_now_products cp1_now_itemCount cp1_now_items cp1_now_books cp1_now_terms cp1_now_shelves_lanes cp1_now_shelves_positions cp1_now_shelves_room cp1_now_shelves_gap cp1_now_shelves_places cp1_now_shelves_picked cp1_now_shelves_lot cp1_now_shelves_pieces cp1_now_shelves_mark cp1_now_shelves_byDistance cp1_now_lots_count cp1_now_lots_product cp1_now_lots_last cp1_now_lots_cost cp1_now_lots_state cp1_now_lots_byLast cp1_now_orders_count cp1_now_orders_gifts cp1_now_orders_customer cp1_now_orders_product cp1_now_orders_open cp1_now_orders_due cp1_now_orders_life cp1_now_orders_byDue cp1_now_orders_had cp1_now_orders_stamps = some (a', ns', hk', st') := m1
  obtain ⟨i0, i1, i2, i3⟩ := a12
  · skip
    have h1 : f_X7_clearItems cp1_acts cp1_nextSlot cp1_hk cp1_st cp1_now_today cp1_now_products cp1_now_itemCount cp1_now_items cp1_now_books cp1_now_terms cp1_now_shelves_lanes cp1_now_shelves_positions cp1_now_shelves_room cp1_now_shelves_gap cp1_now_shelves_places cp1_now_shelves_picked cp1_now_shelves_lot cp1_now_shelves_pieces cp1_now_shelves_mark cp1_now_shelves_byDistance cp1_now_lots_count cp1_now_lots_product cp1_now_lots_last cp1_now_lots_cost cp1_now_lots_state cp1_now_lots_byLast cp1_now_orders_count cp1_now_orders_gifts cp1_now_orders_customer cp1_now_orders_product cp1_now_orders_open cp1_now_orders_due cp1_now_orders_life cp1_now_orders_byDue cp1_now_orders_had cp1_now_orders_stamps = some (cp1_now_itemCount, a', ns', hk', st', 0) := by
      unfold f_X7_clearItems
      rw [m1]
      simp only [bnd4, Option.bind_some]
    have h2 : f_Y8_clearItems cp2_raised cp2_undos cp2_eldest cp2_w cp2_kept = some (cp1_now_itemCount, 0, u', e', upd cp2_w (2423 : Int32).toNatClampNeg 0, k') := by
      unfold f_Y8_clearItems
      rw [m2]
      simp only [bnd3, Option.bind_some]
      rw [gd_2450 (by decide) (by decide), gd_2450 (by decide) (by decide), show ((2423 : Int32).toNatClampNeg) = 2423 from rfl, i0]
    have hAG : ∀ A B : Int32, 0 ≤ A → (B ≤ 2423 ∨ 2432 ≤ A) → AG A B cp2_w (upd cp2_w (2423 : Int32).toNatClampNeg 0) := fun A B hA h => AG.rf.up hA (by decide) (by clear hR m1 m2 m3; grind)
    have q12 : QI 0 cp1_now_items (upd cp2_w (2423 : Int32).toNatClampNeg 0) := ⟨rfl, by decide, by decide, fun n n1 n2 => absurd n2 (by clear hR m1 m2 m3; grind)⟩
    refine ⟨?wc, ?pc, ?qc⟩
    case pc =>
      rw [fc_33, h1]
      simp only [bnd6, Option.bind_some]
      rw [h2]
      simp only [bnd1, bnd6, Option.bind_some, f_Y8_thrown]
      exact if_pos trivial
    case qc =>
      rw [R_mk]
      refine ⟨?_, hR.2.1, m3, hR.2.2.2⟩
      rw [RS_mk]
      exact ⟨QD_ag (hAG _ _ (by decide) (by decide)) a1, QB_ag (hAG _ _ (by decide) (by decide)) a2, QP_ag d17 (hAG _ _ (by decide) (by decide)) a3, QK_ag (hAG _ _ (by decide) (by decide)) a4, QL_ag d23 (hAG _ _ (by decide) (by decide)) a5, a6, QO_ag d26 (hAG _ _ (by decide) (by decide)) a7, a8, QH_ag d26 (hAG _ _ (by decide) (by decide)) a9, QG_ag d25 d26 (hAG _ _ (by decide) (by decide)) (hAG _ _ (by decide) (by decide)) a10, a11, q12, QT_ag (hAG _ _ (by decide) (by decide)) a13, a14, a15⟩

set_option maxRecDepth 4000 in
theorem cs_21 (PL : (Nat → Int32) → (Nat → Int32) → (Nat → Int32) → (Nat → Int64) → (Nat → Int64) → (Nat → Int32) → Prop) (cp1_acts : Int32) (cp1_nextSlot : Int32) (cp1_now_today : Int32) (cp1_now_products : Int32) (cp1_now_itemCount : Int32) (cp1_now_items : Nat → Int32) (cp1_now_books : Nat → Int32) (cp1_now_terms : Nat → Int32) (cp1_now_shelves_lanes : Int32) (cp1_now_shelves_positions : Int32) (cp1_now_shelves_room : Int32) (cp1_now_shelves_gap : Int32) (cp1_now_shelves_places : Int32) (cp1_now_shelves_picked : Int64) (cp1_now_shelves_lot : Nat → Int32) (cp1_now_shelves_pieces : Nat → Int32) (cp1_now_shelves_mark : Nat → Int32) (cp1_now_shelves_byDistance : Nat → Int32) (cp1_now_lots_count : Int32) (cp1_now_lots_product : Nat → Int32) (cp1_now_lots_last : Nat → Int32) (cp1_now_lots_cost : Nat → Int32) (cp1_now_lots_state : Nat → Int32) (cp1_now_lots_byLast : Nat → Int32) (cp1_now_orders_count : Int32) (cp1_now_orders_gifts : Int32) (cp1_now_orders_customer : Nat → Int32) (cp1_now_orders_product : Nat → Int32) (cp1_now_orders_open : Nat → Int32) (cp1_now_orders_due : Nat → Int32) (cp1_now_orders_life : Nat → Int32) (cp1_now_orders_byDue : Nat → Int32) (cp1_now_orders_had : Nat → Int32) (cp1_now_orders_stamps : Nat → Int32) (cp1_hk : Nat) (cp1_st : Nat → StT) (cp1_plan_terms : Nat → Int32) (cp1_plan_low : Nat → Int32) (cp1_plan_high : Nat → Int32) (cp1_plan_bottom : Nat → Int64) (cp1_plan_cost : Nat → Int64) (cp1_plan_act : Nat → Int32) (cp1_picker_deepest : Int32) (cp1_picker_shallowest : Int32) (cp1_picker_widest : Int32) (cp1_picker_least : Nat → Int32) (cp1_picker_next : Nat → Int32) (cp1_rest : Nat → Int32) (cp1_packed : Nat → Int32) (cp2_raised : Int32) (cp2_undos : Int32) (cp2_eldest : Int32) (cp2_w : Nat → Int32) (cp2_kept : Nat → Int32) (cp2_copy : Nat → Int32) (cp2_near : Nat → Int32) (cp2_isDone : Nat → Int32) (cp2_lane : Nat → Int32) (cp2_position : Nat → Int32) (cp2_least : Nat → Int32) (cp2_boxesOf : Nat → Int32) (cp2_staying : Nat → Int64) (cp2_planned : Nat → Int64) (cp2_scale : Nat → Int64) (cp3 : Nat → Int64) (v1 v2 v3 v4 v5 : Int32) (hR : RC PL (cp1_now_today, cp1_now_products, cp1_now_itemCount, cp1_now_items, cp1_now_books, cp1_now_terms, cp1_now_shelves_lanes, cp1_now_shelves_positions, cp1_now_shelves_room, cp1_now_shelves_gap, cp1_now_shelves_places, cp1_now_shelves_picked, cp1_now_shelves_lot, cp1_now_shelves_pieces, cp1_now_shelves_mark, cp1_now_shelves_byDistance, cp1_now_lots_count, cp1_now_lots_product, cp1_now_lots_last, cp1_now_lots_cost, cp1_now_lots_state, cp1_now_lots_byLast, cp1_now_orders_count, cp1_now_orders_gifts, cp1_now_orders_customer, cp1_now_orders_product, cp1_now_orders_open, cp1_now_orders_due, cp1_now_orders_life, cp1_now_orders_byDue, cp1_now_orders_had, cp1_now_orders_stamps) cp2_w cp2_near cp1_acts cp1_nextSlot cp1_hk cp1_st cp2_undos cp2_eldest cp2_kept cp1_plan_terms cp1_plan_low cp1_plan_high cp1_plan_bottom cp1_plan_cost cp1_plan_act) : ∃ z', f_c21 v1 v2 v3 v4 v5 (cp1_acts, cp1_nextSlot, cp1_now_today, cp1_now_products, cp1_now_itemCount, cp1_now_items, cp1_now_books, cp1_now_terms, cp1_now_shelves_lanes, cp1_now_shelves_positions, cp1_now_shelves_room, cp1_now_shelves_gap, cp1_now_shelves_places, cp1_now_shelves_picked, cp1_now_shelves_lot, cp1_now_shelves_pieces, cp1_now_shelves_mark, cp1_now_shelves_byDistance, cp1_now_lots_count, cp1_now_lots_product, cp1_now_lots_last, cp1_now_lots_cost, cp1_now_lots_state, cp1_now_lots_byLast, cp1_now_orders_count, cp1_now_orders_gifts, cp1_now_orders_customer, cp1_now_orders_product, cp1_now_orders_open, cp1_now_orders_due, cp1_now_orders_life, cp1_now_orders_byDue, cp1_now_orders_had, cp1_now_orders_stamps, cp1_hk, cp1_st, cp1_plan_terms, cp1_plan_low, cp1_plan_high, cp1_plan_bottom, cp1_plan_cost, cp1_plan_act, cp1_picker_deepest, cp1_picker_shallowest, cp1_picker_widest, cp1_picker_least, cp1_picker_next, cp1_rest, cp1_packed, cp2_raised, cp2_undos, cp2_eldest, cp2_w, cp2_kept, cp2_copy, cp2_near, cp2_isDone, cp2_lane, cp2_position, cp2_least, cp2_boxesOf, cp2_staying, cp2_planned, cp2_scale, cp3) = some z' ∧ R PL z' := by
  have hS := hR.1
  rw [RS_mk] at hS
  obtain ⟨a1, a2, a3, a4, a5, a6, a7, a8, a9, a10, a11, a12, a13, a14, a15⟩ := hS
  have a0 := a1
  obtain ⟨d0, d1, d2, d3, d4, d5, d6, d7, d8, d9, d10, d11, d12, d13, d14, d15, d16, d17, d18, d19, d20, d21, d22, d23, d24, d25, d26⟩ := a0
  obtain ⟨a', ns', hk', st', u', e', k', m1, m2, m3⟩ := remember_keep hR.1 hR.2.2.1
  have m1 : f_X7_remember cp1_acts cp1_nextSlot cp1_hk cp1_st cp1_now_today cp1_now_products cp1_now_itemCount cp1_now_items cp1_now_books cp1_now_terms cp1_now_shelves_lanes cp1_now_shelves_positions cp1_now_shelves_room cp1_now_shelves_gap cp1_now_shelves_places cp1_now_shelves_picked cp1_now_shelves_lot cp1_now_shelves_pieces cp1_now_shelves_mark cp1_now_shelves_byDistance cp1_now_lots_count cp1_now_lots_product cp1_now_lots_last cp1_now_lots_cost cp1_now_lots_state cp1_now_lots_byLast cp1_now_orders_count cp1_now_orders_gifts cp1_now_orders_customer cp1_now_orders_product cp1_now_orders_open cp1_now_orders_due cp1_now_orders_life cp1_now_orders_byDue cp1_now_orders_had cp1_now_orders_stamps = some (a', ns', hk', st') := m1
  have e7 : f_X7_needOrder v1 cp1_now_orders_count = _ := n_needOrder v1 cp1_now_orders_count (by clear hR m1 m2 m3; grind)
  have e8 : f_Y8_isOrder v1 cp2_w = _ := n_isOrder v1 cp2_w (by clear hR m1 m2 m3; grind) (by clear hR m1 m2 m3; grind)
  by_cases c1 : 0 ≤ v1 ∧ v1 < cp1_now_orders_count
  rotate_left
  · skip
    have h1 : f_W_cancel v1 cp1_acts cp1_nextSlot cp1_hk cp1_st cp1_now_today cp1_now_products cp1_now_itemCount cp1_now_items cp1_now_books cp1_now_terms cp1_now_shelves_lanes cp1_now_shelves_positions cp1_now_shelves_room cp1_now_shelves_gap cp1_now_shelves_places cp1_now_shelves_picked cp1_now_shelves_lot cp1_now_shelves_pieces cp1_now_shelves_mark cp1_now_shelves_byDistance cp1_now_lots_count cp1_now_lots_product cp1_now_lots_last cp1_now_lots_cost cp1_now_lots_state cp1_now_lots_byLast cp1_now_orders_count cp1_now_orders_gifts cp1_now_orders_customer cp1_now_orders_product cp1_now_orders_open cp1_now_orders_due cp1_now_orders_life cp1_now_orders_byDue cp1_now_orders_had cp1_now_orders_stamps cp3 = some (1, cp1_acts, cp1_nextSlot, cp1_hk, cp1_st, cp1_now_orders_open, cp3) := by
      unfold f_W_cancel f_X7_cancel
      rw [e7, if_neg c1]
      simp only [bnd1, bnd6, Option.bind_some, mx, ↓reduceIte]
    have h2 : f_Y8_cancel v1 cp2_raised cp2_undos cp2_eldest cp2_w cp2_kept = some (0, 1, cp2_undos, cp2_eldest, cp2_w, cp2_kept) := by
      unfold f_Y8_cancel
      rw [e8, d24, if_neg c1]
      simp only [bnd1, bnd2, Option.bind_some, can_f0, ↓reduceIte]
    refine ⟨?wa, ?pa, ?qa⟩
    case pa =>
      rw [fc_21, h1]
      simp only [bnd7, Option.bind_some]
      rw [h2]
      simp only [bnd1, bnd6, Option.bind_some, f_Y8_thrown]
      exact fin_1 (show ¬ (1 : Int32) = 0 by decide)
    case qa =>
      rw [R_mk]
      exact hR
  · skip
    obtain ⟨q1, q2⟩ := c1
    have c1 : 0 ≤ v1 ∧ v1 < cp1_now_orders_count := ⟨q1, q2⟩
    obtain ⟨b1, b2, b3, b4, b5, b6, b7, b8, b9, b10, b11, b12, b13, b14, b15⟩ := a7 v1 q1 q2
    have h1 : f_W_cancel v1 cp1_acts cp1_nextSlot cp1_hk cp1_st cp1_now_today cp1_now_products cp1_now_itemCount cp1_now_items cp1_now_books cp1_now_terms cp1_now_shelves_lanes cp1_now_shelves_positions cp1_now_shelves_room cp1_now_shelves_gap cp1_now_shelves_places cp1_now_shelves_picked cp1_now_shelves_lot cp1_now_shelves_pieces cp1_now_shelves_mark cp1_now_shelves_byDistance cp1_now_lots_count cp1_now_lots_product cp1_now_lots_last cp1_now_lots_cost cp1_now_lots_state cp1_now_lots_byLast cp1_now_orders_count cp1_now_orders_gifts cp1_now_orders_customer cp1_now_orders_product cp1_now_orders_open cp1_now_orders_due cp1_now_orders_life cp1_now_orders_byDue cp1_now_orders_had cp1_now_orders_stamps cp3 = some (0, a', ns', hk', st', upd cp1_now_orders_open v1.toNatClampNeg 0, vp_updL cp3 (0 : Int32).toNatClampNeg (ix cp1_now_orders_open v1).toInt64) := by
      unfold f_W_cancel f_X7_cancel
      rw [e7, if_pos c1]
      simp only [bnd1, bnd4, bnd6, Option.bind_some, mx]
      rw [m1]
      simp only [Option.bind_some]
      rw [gd_40 q1 (by clear hR m1 m2 m3; grind), gd_40 q1 (by clear hR m1 m2 m3; grind)]
      simp only [Option.bind_some]
      rw [gd_1 (by decide) (by decide)]
    have h2 : f_Y8_cancel v1 cp2_raised cp2_undos cp2_eldest cp2_w cp2_kept = some (ix cp1_now_orders_open v1, 0, u', e', upd cp2_w (383 + v1).toNatClampNeg 0, k') := by
      unfold f_Y8_cancel
      rw [e8, d24, if_pos c1]
      simp only [bnd1, bnd2, bnd3, Option.bind_some, can_t]
      rw [if_neg one_ne, m2]
      simp only [Option.bind_some]
      rw [gd_2450 (by clear hR m1 m2 m3; grind) (by clear hR m1 m2 m3; grind), gd_2450 (by clear hR m1 m2 m3; grind) (by clear hR m1 m2 m3; grind), ← b7]
    have hAG : ∀ A B : Int32, 0 ≤ A → (B ≤ 303 ∨ 503 ≤ A) → AG A B cp2_w (upd cp2_w (383 + v1).toNatClampNeg 0) := fun A B hA h => AG.rf.up hA (by clear hR m1 m2 m3; grind) (by clear hR m1 m2 m3; grind)
    have q7 : QO cp1_now_orders_count cp1_now_products cp1_now_orders_customer cp1_now_orders_product (upd cp1_now_orders_open v1.toNatClampNeg 0) cp1_now_orders_due cp1_now_orders_life (upd cp2_w (383 + v1).toNatClampNeg 0) := by
      intro n n1 n2
      obtain ⟨b1, b2, b3, b4, b5, b6, b7, b8, b9, b10, b11, b12, b13, b14, b15⟩ := a7 n n1 n2
      have u1 : ix (upd cp2_w (383 + v1).toNatClampNeg 0) (303 + n) = ix cp2_w (303 + n) := upd_ne (by clear hR m1 m2 m3; grind) (by clear hR m1 m2 m3; grind) (by clear hR m1 m2 m3; grind)
      have u2 : ix (upd cp2_w (383 + v1).toNatClampNeg 0) (343 + n) = ix cp2_w (343 + n) := upd_ne (by clear hR m1 m2 m3; grind) (by clear hR m1 m2 m3; grind) (by clear hR m1 m2 m3; grind)
      have u3 : ix (upd cp2_w (383 + v1).toNatClampNeg 0) (423 + n) = ix cp2_w (423 + n) := upd_ne (by clear hR m1 m2 m3; grind) (by clear hR m1 m2 m3; grind) (by clear hR m1 m2 m3; grind)
      have u4 : ix (upd cp2_w (383 + v1).toNatClampNeg 0) (463 + n) = ix cp2_w (463 + n) := upd_ne (by clear hR m1 m2 m3; grind) (by clear hR m1 m2 m3; grind) (by clear hR m1 m2 m3; grind)
      have u5 : ix (upd cp2_w (383 + v1).toNatClampNeg 0) (383 + n) = if 383 + n = 383 + v1 then 0 else ix cp2_w (383 + n) := upd_at (by clear hR m1 m2 m3; grind) (by clear hR m1 m2 m3; grind)
      have u6 : ix (upd cp1_now_orders_open v1.toNatClampNeg 0) n = if n = v1 then 0 else ix cp1_now_orders_open n := upd_at q1 n1
      rw [u1, u2, u3, u4, u5, u6]
      by_cases hn : n = v1
      · rw [if_pos (by rw [hn]), if_pos hn]
        exact ⟨b1, b2, b3, b4, b5, b6, rfl, by decide, by decide, b10, b11, b12, b13, b14, b15⟩
      · rw [if_neg (by clear hR m1 m2 m3; grind), if_neg hn]
        exact ⟨b1, b2, b3, b4, b5, b6, b7, b8, b9, b10, b11, b12, b13, b14, b15⟩
    have q11 : QS cp1_now_orders_count cp1_now_orders_gifts (upd cp1_now_orders_open v1.toNatClampNeg 0) cp1_now_orders_had := by
      have b8' := i_le.mp b8
      have z0 : (0 : Int32).toInt = 0 := rfl
      refine ⟨?_, ?_⟩
      · intro n n1 n2
        have u6 : ix (upd cp1_now_orders_open v1.toNatClampNeg 0) n = if n = v1 then 0 else ix cp1_now_orders_open n := upd_at q1 n1
        have s1 := a11.1 n n1 n2
        rw [u6]
        by_cases hn : n = v1
        · subst hn; rw [if_pos rfl]; omega
        · rw [if_neg hn]; exact s1
      · have s2 := a11.2
        have s3 := zsum_upd cp1_now_orders_open v1.toNatClampNeg 0 cp1_now_orders_count.toNatClampNeg
        rw [if_pos (tn_lt q1 q2)] at s3
        have s4 : (cp1_now_orders_open v1.toNatClampNeg).toInt = (ix cp1_now_orders_open v1).toInt := rfl
        omega
    refine ⟨?wc, ?pc, ?qc⟩
    case pc =>
      rw [fc_21, h1]
      simp only [bnd7, Option.bind_some]
      rw [h2]
      simp only [bnd1, bnd6, Option.bind_some, f_Y8_thrown]
      refine fin_0 ?_
      rfl
    case qc =>
      rw [R_mk]
      refine ⟨?_, hR.2.1, m3, hR.2.2.2⟩
      rw [RS_mk]
      exact ⟨QD_ag (hAG _ _ (by decide) (by decide)) a1, QB_ag (hAG _ _ (by decide) (by decide)) a2, QP_ag d17 (hAG _ _ (by decide) (by decide)) a3, QK_ag (hAG _ _ (by decide) (by decide)) a4, QL_ag d23 (hAG _ _ (by decide) (by decide)) a5, a6, q7, a8, QH_ag d26 (hAG _ _ (by decide) (by decide)) a9, QG_ag d25 d26 (hAG _ _ (by decide) (by decide)) (hAG _ _ (by decide) (by decide)) a10, q11, QI_ag (hAG _ _ (by decide) (by decide)) a12, QT_ag (hAG _ _ (by decide) (by decide)) a13, a14, a15⟩

