set_option maxRecDepth 4000 in
theorem cs_19 (PL : (Nat → Int32) → (Nat → Int32) → (Nat → Int32) → (Nat → Int64) → (Nat → Int64) → (Nat → Int32) → Prop) (cp1_acts : Int32) (cp1_nextSlot : Int32) (cp1_now_today : Int32) (cp1_now_products : Int32) (cp1_now_itemCount : Int32) (cp1_now_items : Nat → Int32) (cp1_now_books : Nat → Int32) (cp1_now_terms : Nat → Int32) (cp1_now_shelves_lanes : Int32) (cp1_now_shelves_positions : Int32) (cp1_now_shelves_room : Int32) (cp1_now_shelves_gap : Int32) (cp1_now_shelves_places : Int32) (cp1_now_shelves_picked : Int64) (cp1_now_shelves_lot : Nat → Int32) (cp1_now_shelves_pieces : Nat → Int32) (cp1_now_shelves_mark : Nat → Int32) (cp1_now_shelves_byDistance : Nat → Int32) (cp1_now_lots_count : Int32) (cp1_now_lots_product : Nat → Int32) (cp1_now_lots_last : Nat → Int32) (cp1_now_lots_cost : Nat → Int32) (cp1_now_lots_state : Nat → Int32) (cp1_now_lots_byLast : Nat → Int32) (cp1_now_orders_count : Int32) (cp1_now_orders_gifts : Int32) (cp1_now_orders_customer : Nat → Int32) (cp1_now_orders_product : Nat → Int32) (cp1_now_orders_open : Nat → Int32) (cp1_now_orders_due : Nat → Int32) (cp1_now_orders_life : Nat → Int32) (cp1_now_orders_byDue : Nat → Int32) (cp1_now_orders_had : Nat → Int32) (cp1_now_orders_stamps : Nat → Int32) (cp1_hk : Nat) (cp1_st : Nat → StT) (cp1_plan_terms : Nat → Int32) (cp1_plan_low : Nat → Int32) (cp1_plan_high : Nat → Int32) (cp1_plan_bottom : Nat → Int64) (cp1_plan_cost : Nat → Int64) (cp1_plan_act : Nat → Int32) (cp1_picker_deepest : Int32) (cp1_picker_shallowest : Int32) (cp1_picker_widest : Int32) (cp1_picker_least : Nat → Int32) (cp1_picker_next : Nat → Int32) (cp1_rest : Nat → Int32) (cp1_packed : Nat → Int32) (cp2_raised : Int32) (cp2_undos : Int32) (cp2_eldest : Int32) (cp2_w : Nat → Int32) (cp2_kept : Nat → Int32) (cp2_copy : Nat → Int32) (cp2_near : Nat → Int32) (cp2_isDone : Nat → Int32) (cp2_lane : Nat → Int32) (cp2_position : Nat → Int32) (cp2_least : Nat → Int32) (cp2_boxesOf : Nat → Int32) (cp2_staying : Nat → Int64) (cp2_planned : Nat → Int64) (cp2_scale : Nat → Int64) (cp3 : Nat → Int64) (v1 v2 v3 v4 v5 : Int32) (hR : RC PL (cp1_now_today, cp1_now_products, cp1_now_itemCount, cp1_now_items, cp1_now_books, cp1_now_terms, cp1_now_shelves_lanes, cp1_now_shelves_positions, cp1_now_shelves_room, cp1_now_shelves_gap, cp1_now_shelves_places, cp1_now_shelves_picked, cp1_now_shelves_lot, cp1_now_shelves_pieces, cp1_now_shelves_mark, cp1_now_shelves_byDistance, cp1_now_lots_count, cp1_now_lots_product, cp1_now_lots_last, cp1_now_lots_cost, cp1_now_lots_state, cp1_now_lots_byLast, cp1_now_orders_count, cp1_now_orders_gifts, cp1_now_orders_customer, cp1_now_orders_product, cp1_now_orders_open, cp1_now_orders_due, cp1_now_orders_life, cp1_now_orders_byDue, cp1_now_orders_had, cp1_now_orders_stamps) cp2_w cp2_near cp1_acts cp1_nextSlot cp1_hk cp1_st cp2_undos cp2_eldest cp2_kept cp1_plan_terms cp1_plan_low cp1_plan_high cp1_plan_bottom cp1_plan_cost cp1_plan_act) : ∃ z', f_c19 v1 v2 v3 v4 v5 (cp1_acts, cp1_nextSlot, cp1_now_today, cp1_now_products, cp1_now_itemCount, cp1_now_items, cp1_now_books, cp1_now_terms, cp1_now_shelves_lanes, cp1_now_shelves_positions, cp1_now_shelves_room, cp1_now_shelves_gap, cp1_now_shelves_places, cp1_now_shelves_picked, cp1_now_shelves_lot, cp1_now_shelves_pieces, cp1_now_shelves_mark, cp1_now_shelves_byDistance, cp1_now_lots_count, cp1_now_lots_product, cp1_now_lots_last, cp1_now_lots_cost, cp1_now_lots_state, cp1_now_lots_byLast, cp1_now_orders_count, cp1_now_orders_gifts, cp1_now_orders_customer, cp1_now_orders_product, cp1_now_orders_open, cp1_now_orders_due, cp1_now_orders_life, cp1_now_orders_byDue, cp1_now_orders_had, cp1_now_orders_stamps, cp1_hk, cp1_st, cp1_plan_terms, cp1_plan_low, cp1_plan_high, cp1_plan_bottom, cp1_plan_cost, cp1_plan_act, cp1_picker_deepest, cp1_picker_shallowest, cp1_picker_widest, cp1_picker_least, cp1_picker_next, cp1_rest, cp1_packed, cp2_raised, cp2_undos, cp2_eldest, cp2_w, cp2_kept, cp2_copy, cp2_near, cp2_isDone, cp2_lane, cp2_position, cp2_least, cp2_boxesOf, cp2_staying, cp2_planned, cp2_scale, cp3) = some z' ∧ R PL z' := by
  have hS := hR.1
  rw [RS_mk] at hS
  obtain ⟨a1, a2, a3, a4, a5, a6, a7, a8, a9, a10, a11, a12, a13, a14, a15⟩ := hS
  have a0 := a1
  obtain ⟨d0, d1, d2, d3, d4, d5, d6, d7, d8, d9, d10, d11, d12, d13, d14, d15, d16, d17, d18, d19, d20, d21, d22, d23, d24, d25, d26⟩ := a0
  obtain ⟨a', ns', hk', st', u', e', k', m1, m2, m3⟩ := remember_keep hR.1 hR.2.2.1
  have m1 : f_X7_remember cp1_acts cp1_nextSlot cp1_hk cp1_st cp1_now_today cp1_now_products cp1_now_itemCount cp1_now_items cp1_now_books cp1_now_terms cp1_now_shelves_lanes cp1_now_shelves_positions cp1_now_shelves_room cp1_now_shelves_gap cp1_now_shelves_places cp1_now_shelves_picked cp1_now_shelves_lot cp1_now_shelves_pieces cp1_now_shelves_mark cp1_now_shelves_byDistance cp1_now_lots_count cp1_now_lots_product cp1_now_lots_last cp1_now_lots_cost cp1_now_lots_state cp1_now_lots_byLast cp1_now_orders_count cp1_now_orders_gifts cp1_now_orders_customer cp1_now_orders_product cp1_now_orders_open cp1_now_orders_due cp1_now_orders_life cp1_now_orders_byDue cp1_now_orders_had cp1_now_orders_stamps = some (a', ns', hk', st') := m1
  have hw : cp2_w 1 * cp2_w 2 = cp1_now_shelves_places := by rw [d3, d6, d15]
  have e7 : f_X7_needPlace v1 cp1_now_shelves_places = _ := n_needPlace v1 cp1_now_shelves_places d17
  have e8 : f_Y8_isPlace v1 cp2_w = _ := n_isPlace v1 cp2_w (by rw [hw]; clear hR m1 m2 m3; grind) (by rw [hw]; exact d17)
  rw [hw] at e8
  have e7b : f_X7_needPlace v2 cp1_now_shelves_places = _ := n_needPlace v2 cp1_now_shelves_places d17
  have e8b : f_Y8_isPlace v2 cp2_w = _ := n_isPlace v2 cp2_w (by rw [hw]; clear hR m1 m2 m3; grind) (by rw [hw]; exact d17)
  rw [hw] at e8b
  by_cases c1 : 0 ≤ v1 ∧ v1 < cp1_now_shelves_places
  rotate_left
  · skip
    have h1 : f_W_move v1 v2 cp1_acts cp1_nextSlot cp1_hk cp1_st cp1_now_today cp1_now_products cp1_now_itemCount cp1_now_items cp1_now_books cp1_now_terms cp1_now_shelves_lanes cp1_now_shelves_positions cp1_now_shelves_room cp1_now_shelves_gap cp1_now_shelves_places cp1_now_shelves_picked cp1_now_shelves_lot cp1_now_shelves_pieces cp1_now_shelves_mark cp1_now_shelves_byDistance cp1_now_lots_count cp1_now_lots_product cp1_now_lots_last cp1_now_lots_cost cp1_now_lots_state cp1_now_lots_byLast cp1_now_orders_count cp1_now_orders_gifts cp1_now_orders_customer cp1_now_orders_product cp1_now_orders_open cp1_now_orders_due cp1_now_orders_life cp1_now_orders_byDue cp1_now_orders_had cp1_now_orders_stamps cp3 = some (1, cp1_acts, cp1_nextSlot, cp1_hk, cp1_st, cp1_now_shelves_lot, cp1_now_shelves_pieces, cp1_now_shelves_mark, cp3) := by
      unfold f_W_move f_X7_move f_X7_move_J44
      rw [e7, if_neg c1]
      simp only [bnd1, bnd8, Option.bind_some, mx, ↓reduceIte]
    have h2 : f_Y8_move v1 v2 cp2_raised cp2_undos cp2_eldest cp2_w cp2_kept = some (0, 1, cp2_undos, cp2_eldest, cp2_w, cp2_kept) := by
      unfold f_Y8_move f_Y8_move_J21 f_Y8_move_J22 f_Y8_move_J40 f_Y8_move_J68 f_Y8_move_J69
      rw [e8, if_neg c1]
      simp only [bnd1, bnd2, Option.bind_some, can_f0, ↓reduceIte]
    refine ⟨?wa, ?pa, ?qa⟩
    case pa =>
      rw [fc_19, h1]
      simp only [bnd9, Option.bind_some]
      rw [h2]
      simp only [bnd1, bnd6, Option.bind_some, f_Y8_thrown]
      exact fin_1 (show ¬ (1 : Int32) = 0 by decide)
    case qa =>
      rw [R_mk]
      exact hR
  by_cases c1b : 0 ≤ v2 ∧ v2 < cp1_now_shelves_places
  rotate_left
  · skip
    have h1 : f_W_move v1 v2 cp1_acts cp1_nextSlot cp1_hk cp1_st cp1_now_today cp1_now_products cp1_now_itemCount cp1_now_items cp1_now_books cp1_now_terms cp1_now_shelves_lanes cp1_now_shelves_positions cp1_now_shelves_room cp1_now_shelves_gap cp1_now_shelves_places cp1_now_shelves_picked cp1_now_shelves_lot cp1_now_shelves_pieces cp1_now_shelves_mark cp1_now_shelves_byDistance cp1_now_lots_count cp1_now_lots_product cp1_now_lots_last cp1_now_lots_cost cp1_now_lots_state cp1_now_lots_byLast cp1_now_orders_count cp1_now_orders_gifts cp1_now_orders_customer cp1_now_orders_product cp1_now_orders_open cp1_now_orders_due cp1_now_orders_life cp1_now_orders_byDue cp1_now_orders_had cp1_now_orders_stamps cp3 = some (1, cp1_acts, cp1_nextSlot, cp1_hk, cp1_st, cp1_now_shelves_lot, cp1_now_shelves_pieces, cp1_now_shelves_mark, cp3) := by
      unfold f_W_move f_X7_move f_X7_move_J44
      rw [e7, if_pos c1, e7b, if_neg c1b]
      simp only [bnd1, bnd8, Option.bind_some, mx, ↓reduceIte]
    have h2 : f_Y8_move v1 v2 cp2_raised cp2_undos cp2_eldest cp2_w cp2_kept = some (0, 1, cp2_undos, cp2_eldest, cp2_w, cp2_kept) := by
      unfold f_Y8_move f_Y8_move_J21 f_Y8_move_J22 f_Y8_move_J40 f_Y8_move_J68 f_Y8_move_J69
      rw [e8, if_pos c1, e8b, if_neg c1b]
      simp only [bnd1, bnd2, Option.bind_some, if_neg one_ne, can_f0, ↓reduceIte]
    refine ⟨?wab, ?pab, ?qab⟩
    case pab =>
      rw [fc_19, h1]
      simp only [bnd9, Option.bind_some]
      rw [h2]
      simp only [bnd1, bnd6, Option.bind_some, f_Y8_thrown]
      exact fin_1 (show ¬ (1 : Int32) = 0 by decide)
    case qab =>
      rw [R_mk]
      exact hR
  by_cases c2 : v1 = v2
  · skip
    have h1 : f_W_move v1 v2 cp1_acts cp1_nextSlot cp1_hk cp1_st cp1_now_today cp1_now_products cp1_now_itemCount cp1_now_items cp1_now_books cp1_now_terms cp1_now_shelves_lanes cp1_now_shelves_positions cp1_now_shelves_room cp1_now_shelves_gap cp1_now_shelves_places cp1_now_shelves_picked cp1_now_shelves_lot cp1_now_shelves_pieces cp1_now_shelves_mark cp1_now_shelves_byDistance cp1_now_lots_count cp1_now_lots_product cp1_now_lots_last cp1_now_lots_cost cp1_now_lots_state cp1_now_lots_byLast cp1_now_orders_count cp1_now_orders_gifts cp1_now_orders_customer cp1_now_orders_product cp1_now_orders_open cp1_now_orders_due cp1_now_orders_life cp1_now_orders_byDue cp1_now_orders_had cp1_now_orders_stamps cp3 = some (2, cp1_acts, cp1_nextSlot, cp1_hk, cp1_st, cp1_now_shelves_lot, cp1_now_shelves_pieces, cp1_now_shelves_mark, cp3) := by
      unfold f_W_move f_X7_move f_X7_move_J44
      rw [e7, if_pos c1, e7b, if_pos c1b]
      simp only [bnd1, bnd8, Option.bind_some, mx, if_pos c2, ↓reduceIte, String.reduceEq]
    have h2 : f_Y8_move v1 v2 cp2_raised cp2_undos cp2_eldest cp2_w cp2_kept = some (0, 2, cp2_undos, cp2_eldest, cp2_w, cp2_kept) := by
      unfold f_Y8_move f_Y8_move_J21 f_Y8_move_J22 f_Y8_move_J40 f_Y8_move_J68 f_Y8_move_J69
      rw [e8, if_pos c1, e8b, if_pos c1b]
      simp only [bnd1, bnd2, Option.bind_some, if_neg one_ne, can_t, if_pos c2, can_f0, ↓reduceIte]
    refine ⟨?wb, ?pb, ?qb⟩
    case pb =>
      rw [fc_19, h1]
      simp only [bnd9, Option.bind_some]
      rw [h2]
      simp only [bnd1, bnd6, Option.bind_some, f_Y8_thrown]
      exact fin_1 (show ¬ (2 : Int32) = 0 by decide)
    case qb =>
      rw [R_mk]
      exact hR
  have q1 := c1.1
  have q2 := c1.2
  have p1 := c1b.1
  have p2 := c1b.2
  obtain ⟨b1, b2, b3, b4, b5, b6⟩ := a3 v1 q1 q2
  obtain ⟨f1, f2, f3, f4, f5, f6⟩ := a3 v2 p1 p2
  have b2' : cp2_w (63 + v1).toNatClampNeg = ix cp1_now_shelves_pieces v1 := b2
  have b1' : cp2_w (15 + v1).toNatClampNeg = ix cp1_now_shelves_lot v1 := b1
  by_cases c3 : ix cp1_now_shelves_pieces v1 = 0
  · skip
    have h1 : f_W_move v1 v2 cp1_acts cp1_nextSlot cp1_hk cp1_st cp1_now_today cp1_now_products cp1_now_itemCount cp1_now_items cp1_now_books cp1_now_terms cp1_now_shelves_lanes cp1_now_shelves_positions cp1_now_shelves_room cp1_now_shelves_gap cp1_now_shelves_places cp1_now_shelves_picked cp1_now_shelves_lot cp1_now_shelves_pieces cp1_now_shelves_mark cp1_now_shelves_byDistance cp1_now_lots_count cp1_now_lots_product cp1_now_lots_last cp1_now_lots_cost cp1_now_lots_state cp1_now_lots_byLast cp1_now_orders_count cp1_now_orders_gifts cp1_now_orders_customer cp1_now_orders_product cp1_now_orders_open cp1_now_orders_due cp1_now_orders_life cp1_now_orders_byDue cp1_now_orders_had cp1_now_orders_stamps cp3 = some (3, cp1_acts, cp1_nextSlot, cp1_hk, cp1_st, cp1_now_shelves_lot, cp1_now_shelves_pieces, cp1_now_shelves_mark, cp3) := by
      unfold f_W_move f_X7_move f_X7_move_J44
      rw [e7, if_pos c1, e7b, if_pos c1b, n_isFree5 v1 _ _ d17 q1 q2, if_pos c3]
      simp only [bnd1, bnd8, Option.bind_some, mx, if_neg c2, if_neg one_ne, n_needState, ↓reduceIte, String.reduceEq]
    have h2 : f_Y8_move v1 v2 cp2_raised cp2_undos cp2_eldest cp2_w cp2_kept = some (0, 3, cp2_undos, cp2_eldest, cp2_w, cp2_kept) := by
      unfold f_Y8_move f_Y8_move_J21 f_Y8_move_J22 f_Y8_move_J40 f_Y8_move_J68 f_Y8_move_J69
      rw [e8, if_pos c1, e8b, if_pos c1b]
      simp only [bnd1, bnd2, Option.bind_some, if_neg one_ne, can_t, if_neg c2]
      rw [n_isFree v1 cp2_w q1 (by clear hR m1 m2 m3; grind), b2, if_pos c3]
      simp only [Option.bind_some, if_neg one_ne, can_f0, ↓reduceIte]
    refine ⟨?wc, ?pc, ?qc⟩
    case pc =>
      rw [fc_19, h1]
      simp only [bnd9, Option.bind_some]
      rw [h2]
      simp only [bnd1, bnd6, Option.bind_some, f_Y8_thrown]
      exact fin_1 (show ¬ (3 : Int32) = 0 by decide)
    case qc =>
      rw [R_mk]
      exact hR
  by_cases c4 : ix cp1_now_shelves_pieces v2 = 0
  rotate_left
  · skip
    have h1 : f_W_move v1 v2 cp1_acts cp1_nextSlot cp1_hk cp1_st cp1_now_today cp1_now_products cp1_now_itemCount cp1_now_items cp1_now_books cp1_now_terms cp1_now_shelves_lanes cp1_now_shelves_positions cp1_now_shelves_room cp1_now_shelves_gap cp1_now_shelves_places cp1_now_shelves_picked cp1_now_shelves_lot cp1_now_shelves_pieces cp1_now_shelves_mark cp1_now_shelves_byDistance cp1_now_lots_count cp1_now_lots_product cp1_now_lots_last cp1_now_lots_cost cp1_now_lots_state cp1_now_lots_byLast cp1_now_orders_count cp1_now_orders_gifts cp1_now_orders_customer cp1_now_orders_product cp1_now_orders_open cp1_now_orders_due cp1_now_orders_life cp1_now_orders_byDue cp1_now_orders_had cp1_now_orders_stamps cp3 = some (3, cp1_acts, cp1_nextSlot, cp1_hk, cp1_st, cp1_now_shelves_lot, cp1_now_shelves_pieces, cp1_now_shelves_mark, cp3) := by
      unfold f_W_move f_X7_move f_X7_move_J44
      rw [e7, if_pos c1, e7b, if_pos c1b, n_isFree5 v1 _ _ d17 q1 q2, if_neg c3, n_isFree5 v2 _ _ d17 p1 p2, if_neg c4]
      simp only [bnd1, bnd8, Option.bind_some, mx, if_neg c2, if_neg one_ne, n_needState, ↓reduceIte, String.reduceEq]
    have h2 : f_Y8_move v1 v2 cp2_raised cp2_undos cp2_eldest cp2_w cp2_kept = some (0, 3, cp2_undos, cp2_eldest, cp2_w, cp2_kept) := by
      unfold f_Y8_move f_Y8_move_J21 f_Y8_move_J22 f_Y8_move_J40 f_Y8_move_J68 f_Y8_move_J69
      rw [e8, if_pos c1, e8b, if_pos c1b]
      simp only [bnd1, bnd2, Option.bind_some, if_neg one_ne, can_t, if_neg c2]
      rw [n_isFree v1 cp2_w q1 (by clear hR m1 m2 m3; grind), b2, if_neg c3, n_isFree v2 cp2_w p1 (by clear hR m1 m2 m3; grind), f2, if_neg c4]
      simp only [Option.bind_some, can_f0, ↓reduceIte]
    refine ⟨?wcb, ?pcb, ?qcb⟩
    case pcb =>
      rw [fc_19, h1]
      simp only [bnd9, Option.bind_some]
      rw [h2]
      simp only [bnd1, bnd6, Option.bind_some, f_Y8_thrown]
      exact fin_1 (show ¬ (3 : Int32) = 0 by decide)
    case qcb =>
      rw [R_mk]
      exact hR
  · skip
    have hpp : cp1_now_shelves_pieces v1.toNatClampNeg = ix cp1_now_shelves_pieces v1 := rfl
    have hll : cp1_now_shelves_lot v1.toNatClampNeg = ix cp1_now_shelves_lot v1 := rfl
    have h1 : f_W_move v1 v2 cp1_acts cp1_nextSlot cp1_hk cp1_st cp1_now_today cp1_now_products cp1_now_itemCount cp1_now_items cp1_now_books cp1_now_terms cp1_now_shelves_lanes cp1_now_shelves_positions cp1_now_shelves_room cp1_now_shelves_gap cp1_now_shelves_places cp1_now_shelves_picked cp1_now_shelves_lot cp1_now_shelves_pieces cp1_now_shelves_mark cp1_now_shelves_byDistance cp1_now_lots_count cp1_now_lots_product cp1_now_lots_last cp1_now_lots_cost cp1_now_lots_state cp1_now_lots_byLast cp1_now_orders_count cp1_now_orders_gifts cp1_now_orders_customer cp1_now_orders_product cp1_now_orders_open cp1_now_orders_due cp1_now_orders_life cp1_now_orders_byDue cp1_now_orders_had cp1_now_orders_stamps cp3 = some (0, a', ns', hk', st', (upd (upd cp1_now_shelves_lot v2.toNatClampNeg (if ix cp1_now_shelves_pieces v1 = 0 then -1 else ix cp1_now_shelves_lot v1)) v1.toNatClampNeg (-1)), (upd (upd cp1_now_shelves_pieces v2.toNatClampNeg (ix cp1_now_shelves_pieces v1)) v1.toNatClampNeg 0), (upd (upd cp1_now_shelves_mark v2.toNatClampNeg 6) v1.toNatClampNeg 6), vp_updL cp3 (0 : Int32).toNatClampNeg (ix cp1_now_shelves_pieces v1).toInt64) := by
      unfold f_W_move f_X7_move f_X7_move_J44
      rw [e7, if_pos c1, e7b, if_pos c1b, n_isFree5 v1 _ _ d17 q1 q2, if_neg c3, n_isFree5 v2 _ _ d17 p1 p2, if_pos c4]
      simp only [bnd1, bnd4, bnd8, Option.bind_some, mx, if_neg c2, n_needState, if_neg one_ne, ↓reduceIte]
      rw [m1]
      simp only [Option.bind_some]
      rw [gd_48 q1 (by clear hR m1 m2 m3; grind), gd_48 q1 (by clear hR m1 m2 m3; grind), n_set d17 p1 p2]
      simp only [bnd3, Option.bind_some]
      rw [n_set d17 q1 q2]
      simp only [Option.bind_some, ↓reduceIte]
      rw [gd_1 (by decide) (by decide)]
    have hA63 : ix (upd (upd cp2_w (15 + v2).toNatClampNeg (ix cp1_now_shelves_lot v1)) (63 + v2).toNatClampNeg (ix cp1_now_shelves_pieces v1)) (63 + v1) = ix cp1_now_shelves_pieces v1 := by
      unfold ix
      rw [upd_ne (by clear hR m1 m2 m3; grind) (by clear hR m1 m2 m3; grind) (by clear hR m1 m2 m3; grind), upd_ne (by clear hR m1 m2 m3; grind) (by clear hR m1 m2 m3; grind) (by clear hR m1 m2 m3; grind)]; exact b2
    have htk : f_Y8_takes v1 (ix cp1_now_shelves_pieces v1) (upd (upd cp2_w (15 + v2).toNatClampNeg (ix cp1_now_shelves_lot v1)) (63 + v2).toNatClampNeg (ix cp1_now_shelves_pieces v1)) = some (upd (upd (upd (upd cp2_w (15 + v2).toNatClampNeg (ix cp1_now_shelves_lot v1)) (63 + v2).toNatClampNeg (ix cp1_now_shelves_pieces v1)) (63 + v1).toNatClampNeg 0) (15 + v1).toNatClampNeg (-1)) := by
      rw [n_takes q1 (by clear hR m1 m2 m3; grind), hA63, show ix cp1_now_shelves_pieces v1 - ix cp1_now_shelves_pieces v1 = 0 by clear hR m1 m2 m3; grind, if_pos rfl]
    have h2 : f_Y8_move v1 v2 cp2_raised cp2_undos cp2_eldest cp2_w cp2_kept = some (ix cp1_now_shelves_pieces v1, 0, u', e', (upd (upd (upd (upd (upd (upd cp2_w (15 + v2).toNatClampNeg (ix cp1_now_shelves_lot v1)) (63 + v2).toNatClampNeg (ix cp1_now_shelves_pieces v1)) (63 + v1).toNatClampNeg 0) (15 + v1).toNatClampNeg (-1)) (111 + v1).toNatClampNeg 6) (111 + v2).toNatClampNeg 6), k') := by
      unfold f_Y8_move f_Y8_move_J21 f_Y8_move_J22 f_Y8_move_J40 f_Y8_move_J68 f_Y8_move_J69
      rw [e8, if_pos c1, e8b, if_pos c1b]
      simp only [bnd1, bnd2, bnd3, Option.bind_some, if_neg one_ne, can_t, if_neg c2]
      rw [n_isFree v1 cp2_w q1 (by clear hR m1 m2 m3; grind), b2, if_neg c3, n_isFree v2 cp2_w p1 (by clear hR m1 m2 m3; grind), f2, if_pos c4]
      simp only [Option.bind_some, if_neg one_ne, can_t, ↓reduceIte]
      rw [m2]
      simp only [Option.bind_some]
      rw [gd_2450 (by clear hR m1 m2 m3; grind) (by clear hR m1 m2 m3; grind), gd_2450 (by clear hR m1 m2 m3; grind) (by clear hR m1 m2 m3; grind), gd_2450 (by clear hR m1 m2 m3; grind) (by clear hR m1 m2 m3; grind), gd_2450 (by clear hR m1 m2 m3; grind) (by clear hR m1 m2 m3; grind), b1', b2', htk]
      simp only [Option.bind_some]
      rw [gd_2450 (by clear hR m1 m2 m3; grind) (by clear hR m1 m2 m3; grind), gd_2450 (by clear hR m1 m2 m3; grind) (by clear hR m1 m2 m3; grind)]
    have hAG : ∀ A B : Int32, 0 ≤ A → (B ≤ 15 ∨ 159 ≤ A) → AG A B cp2_w (upd (upd (upd (upd (upd (upd cp2_w (15 + v2).toNatClampNeg (ix cp1_now_shelves_lot v1)) (63 + v2).toNatClampNeg (ix cp1_now_shelves_pieces v1)) (63 + v1).toNatClampNeg 0) (15 + v1).toNatClampNeg (-1)) (111 + v1).toNatClampNeg 6) (111 + v2).toNatClampNeg 6) := fun A B hA h => (((((AG.rf.up hA (by clear hR m1 m2 m3; grind) (by clear hR m1 m2 m3; grind)).up hA (by clear hR m1 m2 m3; grind) (by clear hR m1 m2 m3; grind)).up hA (by clear hR m1 m2 m3; grind) (by clear hR m1 m2 m3; grind)).up hA (by clear hR m1 m2 m3; grind) (by clear hR m1 m2 m3; grind)).up hA (by clear hR m1 m2 m3; grind) (by clear hR m1 m2 m3; grind)).up hA (by clear hR m1 m2 m3; grind) (by clear hR m1 m2 m3; grind)
    have q3a : QP cp1_now_shelves_places cp1_now_shelves_room cp1_now_lots_count (upd cp1_now_shelves_lot v2.toNatClampNeg (if ix cp1_now_shelves_pieces v1 = 0 then -1 else ix cp1_now_shelves_lot v1)) (upd cp1_now_shelves_pieces v2.toNatClampNeg (ix cp1_now_shelves_pieces v1)) (upd cp1_now_shelves_mark v2.toNatClampNeg 6) (upd (upd (upd cp2_w (15 + v2).toNatClampNeg (ix cp1_now_shelves_lot v1)) (63 + v2).toNatClampNeg (ix cp1_now_shelves_pieces v1)) (111 + v2).toNatClampNeg 6) := by
      refine QP_set d17 a3 p1 p2 b4 b5 ?_ ?_ ?_ ?_ ?_
      · rw [if_neg c3]; right; clear hR m1 m2 m3; grind
      · unfold ix; rw [upd_ne (by clear hR m1 m2 m3; grind) (by clear hR m1 m2 m3; grind) (by clear hR m1 m2 m3; grind), upd_ne (by clear hR m1 m2 m3; grind) (by clear hR m1 m2 m3; grind) (by clear hR m1 m2 m3; grind), upd_same, if_neg c3]
      · unfold ix; rw [upd_ne (by clear hR m1 m2 m3; grind) (by clear hR m1 m2 m3; grind) (by clear hR m1 m2 m3; grind), upd_same]
      · unfold ix; rw [upd_same]
      · intro n n1 n2 n3
        refine ⟨?_, ?_, ?_⟩
        · unfold ix; rw [upd_ne (by clear hR m1 m2 m3; grind) (by clear hR m1 m2 m3; grind) (by clear hR m1 m2 m3; grind), upd_ne (by clear hR m1 m2 m3; grind) (by clear hR m1 m2 m3; grind) (by clear hR m1 m2 m3; grind), upd_ne (by clear hR m1 m2 m3; grind) (by clear hR m1 m2 m3; grind) (by clear hR m1 m2 m3; grind)]
        · unfold ix; rw [upd_ne (by clear hR m1 m2 m3; grind) (by clear hR m1 m2 m3; grind) (by clear hR m1 m2 m3; grind), upd_ne (by clear hR m1 m2 m3; grind) (by clear hR m1 m2 m3; grind) (by clear hR m1 m2 m3; grind), upd_ne (by clear hR m1 m2 m3; grind) (by clear hR m1 m2 m3; grind) (by clear hR m1 m2 m3; grind)]
        · unfold ix; rw [upd_ne (by clear hR m1 m2 m3; grind) (by clear hR m1 m2 m3; grind) (by clear hR m1 m2 m3; grind), upd_ne (by clear hR m1 m2 m3; grind) (by clear hR m1 m2 m3; grind) (by clear hR m1 m2 m3; grind), upd_ne (by clear hR m1 m2 m3; grind) (by clear hR m1 m2 m3; grind) (by clear hR m1 m2 m3; grind)]
    have q3 : QP cp1_now_shelves_places cp1_now_shelves_room cp1_now_lots_count (upd (upd cp1_now_shelves_lot v2.toNatClampNeg (if ix cp1_now_shelves_pieces v1 = 0 then -1 else ix cp1_now_shelves_lot v1)) v1.toNatClampNeg (-1)) (upd (upd cp1_now_shelves_pieces v2.toNatClampNeg (ix cp1_now_shelves_pieces v1)) v1.toNatClampNeg 0) (upd (upd cp1_now_shelves_mark v2.toNatClampNeg 6) v1.toNatClampNeg 6) (upd (upd (upd (upd (upd (upd cp2_w (15 + v2).toNatClampNeg (ix cp1_now_shelves_lot v1)) (63 + v2).toNatClampNeg (ix cp1_now_shelves_pieces v1)) (63 + v1).toNatClampNeg 0) (15 + v1).toNatClampNeg (-1)) (111 + v1).toNatClampNeg 6) (111 + v2).toNatClampNeg 6) := by
      refine QP_set d17 q3a q1 q2 (by decide) (by clear hR m1 m2 m3; grind) (Or.inl ⟨rfl, rfl⟩) ?_ ?_ ?_ ?_
      · unfold ix; rw [upd_ne (by clear hR m1 m2 m3; grind) (by clear hR m1 m2 m3; grind) (by clear hR m1 m2 m3; grind), upd_ne (by clear hR m1 m2 m3; grind) (by clear hR m1 m2 m3; grind) (by clear hR m1 m2 m3; grind), upd_same]
      · unfold ix; rw [upd_ne (by clear hR m1 m2 m3; grind) (by clear hR m1 m2 m3; grind) (by clear hR m1 m2 m3; grind), upd_ne (by clear hR m1 m2 m3; grind) (by clear hR m1 m2 m3; grind) (by clear hR m1 m2 m3; grind), upd_ne (by clear hR m1 m2 m3; grind) (by clear hR m1 m2 m3; grind) (by clear hR m1 m2 m3; grind), upd_same]
      · unfold ix; rw [upd_ne (by clear hR m1 m2 m3; grind) (by clear hR m1 m2 m3; grind) (by clear hR m1 m2 m3; grind), upd_same]
      · intro n n1 n2 n3
        refine ⟨?_, ?_, ?_⟩
        · unfold ix; conv => lhs; rw [upd_ne (by clear hR m1 m2 m3; grind) (by clear hR m1 m2 m3; grind) (by clear hR m1 m2 m3; grind), upd_ne (by clear hR m1 m2 m3; grind) (by clear hR m1 m2 m3; grind) (by clear hR m1 m2 m3; grind), upd_ne (by clear hR m1 m2 m3; grind) (by clear hR m1 m2 m3; grind) (by clear hR m1 m2 m3; grind), upd_ne (by clear hR m1 m2 m3; grind) (by clear hR m1 m2 m3; grind) (by clear hR m1 m2 m3; grind)]
          conv => rhs; rw [upd_ne (by clear hR m1 m2 m3; grind) (by clear hR m1 m2 m3; grind) (by clear hR m1 m2 m3; grind)]
        · unfold ix; conv => lhs; rw [upd_ne (by clear hR m1 m2 m3; grind) (by clear hR m1 m2 m3; grind) (by clear hR m1 m2 m3; grind), upd_ne (by clear hR m1 m2 m3; grind) (by clear hR m1 m2 m3; grind) (by clear hR m1 m2 m3; grind), upd_ne (by clear hR m1 m2 m3; grind) (by clear hR m1 m2 m3; grind) (by clear hR m1 m2 m3; grind), upd_ne (by clear hR m1 m2 m3; grind) (by clear hR m1 m2 m3; grind) (by clear hR m1 m2 m3; grind)]
          conv => rhs; rw [upd_ne (by clear hR m1 m2 m3; grind) (by clear hR m1 m2 m3; grind) (by clear hR m1 m2 m3; grind)]
        · unfold ix
          by_cases hn : n = v2
          · subst hn; rw [upd_same, upd_same]
          · conv => lhs; rw [upd_ne (by clear hR m1 m2 m3; grind) (by clear hR m1 m2 m3; grind) (by clear hR m1 m2 m3; grind), upd_ne (by clear hR m1 m2 m3; grind) (by clear hR m1 m2 m3; grind) (by clear hR m1 m2 m3; grind), upd_ne (by clear hR m1 m2 m3; grind) (by clear hR m1 m2 m3; grind) (by clear hR m1 m2 m3; grind), upd_ne (by clear hR m1 m2 m3; grind) (by clear hR m1 m2 m3; grind) (by clear hR m1 m2 m3; grind)]
            conv => rhs; rw [upd_ne (by clear hR m1 m2 m3; grind) (by clear hR m1 m2 m3; grind) (by clear hR m1 m2 m3; grind)]
    have q14 : QA cp1_now_shelves_places cp1_now_books (upd (upd cp1_now_shelves_pieces v2.toNatClampNeg (ix cp1_now_shelves_pieces v1)) v1.toNatClampNeg 0) := by
      obtain ⟨e, g1, g2⟩ := a14
      have t1 := hand_upd (x := ix cp1_now_shelves_pieces v1) d17 p1 p2 g1
      have t2 := hand_upd (x := 0) d17 q1 q2 t1
      have t3 : ix (upd cp1_now_shelves_pieces v2.toNatClampNeg (ix cp1_now_shelves_pieces v1)) v1 = ix cp1_now_shelves_pieces v1 := upd_ne p1 q1 c2
      rw [t3, c4] at t2
      refine ⟨_, t2, ?_⟩
      rw [g2]; clear hR m1 m2 m3; grind
    refine ⟨?wd, ?pd, ?qd⟩
    case pd =>
      rw [fc_19, h1]
      simp only [bnd9, Option.bind_some]
      rw [h2]
      simp only [bnd1, bnd6, Option.bind_some, f_Y8_thrown]
      refine fin_0 ?_
      rfl
    case qd =>
      rw [R_mk]
      refine ⟨?_, hR.2.1, m3, hR.2.2.2⟩
      rw [RS_mk]
      exact ⟨QD_ag (hAG _ _ (by decide) (by decide)) a1, QB_ag (hAG _ _ (by decide) (by decide)) a2, q3, QK_ag (hAG _ _ (by decide) (by decide)) a4, QL_ag d23 (hAG _ _ (by decide) (by decide)) a5, a6, QO_ag d26 (hAG _ _ (by decide) (by decide)) a7, a8, QH_ag d26 (hAG _ _ (by decide) (by decide)) a9, QG_ag d25 d26 (hAG _ _ (by decide) (by decide)) (hAG _ _ (by decide) (by decide)) a10, a11, QI_ag (hAG _ _ (by decide) (by decide)) a12, QT_ag (hAG _ _ (by decide) (by decide)) a13, q14, a15⟩

