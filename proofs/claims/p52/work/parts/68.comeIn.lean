theorem frs_sum {plc : Int32} {ppc : Nat → Int32} (h0 : 0 ≤ plc) (h1 : plc ≤ 48) : f_X5_freePlaces plc ppc = some (frs plc ppc) := free_sum h0 h1
theorem frm_sum {plc rom lcn : Int32} {plot ppc pmk w : Nat → Int32} (h0 : 0 ≤ plc) (h1 : plc ≤ 48) (hw : w 1 * w 2 = plc) (hr : w 3 = rom) (hP : QP plc rom lcn plot ppc pmk w) : f_Y8_freeRoom w = some (rom * frs plc ppc) := room_sum h0 h1 hw hr hP
theorem QH_lot {ocn lcn lcn' : Int32} {oha w : Nat → Int32} (q : QH ocn lcn oha w) (h : lcn ≤ lcn') : QH ocn lcn' oha w := by
  intro n m n0 n1 m0 m1
  obtain ⟨a, b, c, d⟩ := q n m n0 n1 m0 m1
  exact ⟨a, b, c, fun z => d (by grind)⟩
theorem QL_new {c prods v1 v2 v3 : Int32} {lpr lla lco lst w w' : Nat → Int32} (h0 : 0 ≤ c) (h1 : c < 24) (q : QL c prods lpr lla lco lst w) (a1 : 0 ≤ v1 ∧ v1 < prods) (a2 : 0 ≤ v2 ∧ v2 ≤ 2556) (a3 : 0 ≤ v3 ∧ v3 ≤ 9999)
    (hw : ∀ n : Int32, 0 ≤ n → n < 24 → ix w' (207 + n) = (if n = c then v1 else ix w (207 + n)) ∧ ix w' (231 + n) = (if n = c then v2 else ix w (231 + n)) ∧ ix w' (255 + n) = (if n = c then v3 else ix w (255 + n)) ∧ ix w' (279 + n) = (if n = c then 0 else ix w (279 + n))) :
    QL (c + 1) prods (upd lpr c.toNatClampNeg v1) (upd lla c.toNatClampNeg v2) (upd lco c.toNatClampNeg v3) (upd lst c.toNatClampNeg 0) w' := by
  intro n n0 n1
  obtain ⟨w1, w2, w3, w4⟩ := hw n n0 (by grind)
  have u : ∀ (f : Nat → Int32) (v : Int32), ix (upd f c.toNatClampNeg v) n = if n = c then v else ix f n := fun f v => upd_at h0 n0
  rw [w1, w2, w3, w4, u, u, u, u]
  by_cases hn : n = c
  · simp only [if_pos hn]
    exact ⟨trivial, a1.1, a1.2, trivial, a2.1, a2.2, trivial, a3.1, a3.2, trivial, by decide, by decide⟩
  · simp only [if_neg hn]
    exact q n n0 (by grind)

set_option maxRecDepth 4000 in
theorem cs_6 (PL : (Nat → Int32) → (Nat → Int32) → (Nat → Int32) → (Nat → Int64) → (Nat → Int64) → (Nat → Int32) → Prop) (cp1_acts : Int32) (cp1_nextSlot : Int32) (cp1_now_today : Int32) (cp1_now_products : Int32) (cp1_now_itemCount : Int32) (cp1_now_items : Nat → Int32) (cp1_now_books : Nat → Int32) (cp1_now_terms : Nat → Int32) (cp1_now_shelves_lanes : Int32) (cp1_now_shelves_positions : Int32) (cp1_now_shelves_room : Int32) (cp1_now_shelves_gap : Int32) (cp1_now_shelves_places : Int32) (cp1_now_shelves_picked : Int64) (cp1_now_shelves_lot : Nat → Int32) (cp1_now_shelves_pieces : Nat → Int32) (cp1_now_shelves_mark : Nat → Int32) (cp1_now_shelves_byDistance : Nat → Int32) (cp1_now_lots_count : Int32) (cp1_now_lots_product : Nat → Int32) (cp1_now_lots_last : Nat → Int32) (cp1_now_lots_cost : Nat → Int32) (cp1_now_lots_state : Nat → Int32) (cp1_now_lots_byLast : Nat → Int32) (cp1_now_orders_count : Int32) (cp1_now_orders_gifts : Int32) (cp1_now_orders_customer : Nat → Int32) (cp1_now_orders_product : Nat → Int32) (cp1_now_orders_open : Nat → Int32) (cp1_now_orders_due : Nat → Int32) (cp1_now_orders_life : Nat → Int32) (cp1_now_orders_byDue : Nat → Int32) (cp1_now_orders_had : Nat → Int32) (cp1_now_orders_stamps : Nat → Int32) (cp1_hk : Nat) (cp1_st : Nat → StT) (cp1_plan_terms : Nat → Int32) (cp1_plan_low : Nat → Int32) (cp1_plan_high : Nat → Int32) (cp1_plan_bottom : Nat → Int64) (cp1_plan_cost : Nat → Int64) (cp1_plan_act : Nat → Int32) (cp1_picker_deepest : Int32) (cp1_picker_shallowest : Int32) (cp1_picker_widest : Int32) (cp1_picker_least : Nat → Int32) (cp1_picker_next : Nat → Int32) (cp1_rest : Nat → Int32) (cp1_packed : Nat → Int32) (cp2_raised : Int32) (cp2_undos : Int32) (cp2_eldest : Int32) (cp2_w : Nat → Int32) (cp2_kept : Nat → Int32) (cp2_copy : Nat → Int32) (cp2_near : Nat → Int32) (cp2_isDone : Nat → Int32) (cp2_lane : Nat → Int32) (cp2_position : Nat → Int32) (cp2_least : Nat → Int32) (cp2_boxesOf : Nat → Int32) (cp2_staying : Nat → Int64) (cp2_planned : Nat → Int64) (cp2_scale : Nat → Int64) (cp3 : Nat → Int64) (v1 v2 v3 v4 v5 : Int32) (hR : RC PL (cp1_now_today, cp1_now_products, cp1_now_itemCount, cp1_now_items, cp1_now_books, cp1_now_terms, cp1_now_shelves_lanes, cp1_now_shelves_positions, cp1_now_shelves_room, cp1_now_shelves_gap, cp1_now_shelves_places, cp1_now_shelves_picked, cp1_now_shelves_lot, cp1_now_shelves_pieces, cp1_now_shelves_mark, cp1_now_shelves_byDistance, cp1_now_lots_count, cp1_now_lots_product, cp1_now_lots_last, cp1_now_lots_cost, cp1_now_lots_state, cp1_now_lots_byLast, cp1_now_orders_count, cp1_now_orders_gifts, cp1_now_orders_customer, cp1_now_orders_product, cp1_now_orders_open, cp1_now_orders_due, cp1_now_orders_life, cp1_now_orders_byDue, cp1_now_orders_had, cp1_now_orders_stamps) cp2_w cp2_near cp1_acts cp1_nextSlot cp1_hk cp1_st cp2_undos cp2_eldest cp2_kept cp1_plan_terms cp1_plan_low cp1_plan_high cp1_plan_bottom cp1_plan_cost cp1_plan_act) : ∃ z', f_c6 v1 v2 v3 v4 v5 (cp1_acts, cp1_nextSlot, cp1_now_today, cp1_now_products, cp1_now_itemCount, cp1_now_items, cp1_now_books, cp1_now_terms, cp1_now_shelves_lanes, cp1_now_shelves_positions, cp1_now_shelves_room, cp1_now_shelves_gap, cp1_now_shelves_places, cp1_now_shelves_picked, cp1_now_shelves_lot, cp1_now_shelves_pieces, cp1_now_shelves_mark, cp1_now_shelves_byDistance, cp1_now_lots_count, cp1_now_lots_product, cp1_now_lots_last, cp1_now_lots_cost, cp1_now_lots_state, cp1_now_lots_byLast, cp1_now_orders_count, cp1_now_orders_gifts, cp1_now_orders_customer, cp1_now_orders_product, cp1_now_orders_open, cp1_now_orders_due, cp1_now_orders_life, cp1_now_orders_byDue, cp1_now_orders_had, cp1_now_orders_stamps, cp1_hk, cp1_st, cp1_plan_terms, cp1_plan_low, cp1_plan_high, cp1_plan_bottom, cp1_plan_cost, cp1_plan_act, cp1_picker_deepest, cp1_picker_shallowest, cp1_picker_widest, cp1_picker_least, cp1_picker_next, cp1_rest, cp1_packed, cp2_raised, cp2_undos, cp2_eldest, cp2_w, cp2_kept, cp2_copy, cp2_near, cp2_isDone, cp2_lane, cp2_position, cp2_least, cp2_boxesOf, cp2_staying, cp2_planned, cp2_scale, cp3) = some z' ∧ R PL z' := by
  have hS := hR.1
  rw [RS_mk] at hS
  obtain ⟨a1, a2, a3, a4, a5, a6, a7, a8, a9, a10, a11, a12, a13, a14, a15⟩ := hS
  have a0 := a1
  obtain ⟨d0, d1, d2, d3, d4, d5, d6, d7, d8, d9, d10, d11, d12, d13, d14, d15, d16, d17, d18, d19, d20, d21, d22, d23, d24, d25, d26⟩ := a0
  obtain ⟨a', ns', hk', st', u', e', kp', m1, m2, m3⟩ := remember_keep hR.1 hR.2.2.1
  have m1 : f_X7_remember cp1_acts cp1_nextSlot cp1_hk cp1_st cp1_now_today cp1_now_products cp1_now_itemCount cp1_now_items cp1_now_books cp1_now_terms cp1_now_shelves_lanes cp1_now_shelves_positions cp1_now_shelves_room cp1_now_shelves_gap cp1_now_shelves_places cp1_now_shelves_picked cp1_now_shelves_lot cp1_now_shelves_pieces cp1_now_shelves_mark cp1_now_shelves_byDistance cp1_now_lots_count cp1_now_lots_product cp1_now_lots_last cp1_now_lots_cost cp1_now_lots_state cp1_now_lots_byLast cp1_now_orders_count cp1_now_orders_gifts cp1_now_orders_customer cp1_now_orders_product cp1_now_orders_open cp1_now_orders_due cp1_now_orders_life cp1_now_orders_byDue cp1_now_orders_had cp1_now_orders_stamps = some (a', ns', hk', st') := m1
  have e7 : f_X7_needProduct v1 cp1_now_products = _ := n_needProduct v1 cp1_now_products
  have e8 : f_Y8_isProduct v1 cp2_w = _ := n_isProduct v1 cp2_w (by rw [d18]; exact d19) (by rw [d18]; clear hR m1 m2 m3; grind)
  rw [d18] at e8
  have w0 : cp2_w (0 : Int32).toNatClampNeg = cp1_now_today := d0
  have w6 : cp2_w (6 : Int32).toNatClampNeg = cp1_now_lots_count := d21
  by_cases c1 : 0 ≤ v1 ∧ v1 < cp1_now_products
  rotate_left
  · skip
    have h1 : f_W_comeIn v1 v2 v3 v4 cp1_acts cp1_nextSlot cp1_hk cp1_st cp1_now_today cp1_now_products cp1_now_itemCount cp1_now_items cp1_now_books cp1_now_terms cp1_now_shelves_lanes cp1_now_shelves_positions cp1_now_shelves_room cp1_now_shelves_gap cp1_now_shelves_places cp1_now_shelves_picked cp1_now_shelves_lot cp1_now_shelves_pieces cp1_now_shelves_mark cp1_now_shelves_byDistance cp1_now_lots_count cp1_now_lots_product cp1_now_lots_last cp1_now_lots_cost cp1_now_lots_state cp1_now_lots_byLast cp1_now_orders_count cp1_now_orders_gifts cp1_now_orders_customer cp1_now_orders_product cp1_now_orders_open cp1_now_orders_due cp1_now_orders_life cp1_now_orders_byDue cp1_now_orders_had cp1_now_orders_stamps cp3 = some (1, cp1_acts, cp1_nextSlot, cp1_hk, cp1_st, cp1_now_books, cp1_now_shelves_lot, cp1_now_shelves_pieces, cp1_now_shelves_mark, cp1_now_lots_count, cp1_now_lots_product, cp1_now_lots_last, cp1_now_lots_cost, cp1_now_lots_state, cp1_now_lots_byLast, cp3) := by
      unfold f_W_comeIn f_X7_comeIn
      rw [e7, if_neg c1]
      simp only [bnd1, bnd15, Option.bind_some, mx, ↓reduceIte]
    have h2 : f_Y8_comeIn v1 v2 v3 v4 cp2_raised cp2_undos cp2_eldest cp2_w cp2_kept cp2_near = some (0, 1, cp2_undos, cp2_eldest, cp2_w, cp2_kept) := by
      unfold f_Y8_comeIn
      rw [e8, if_neg c1]
      simp only [bnd1, bnd2, Option.bind_some, can_f0, ↓reduceIte]
    refine ⟨?wa, ?pa, ?qa⟩
    case pa =>
      rw [fc_6, h1]
      simp only [bnd16, Option.bind_some]
      rw [h2]
      simp only [bnd1, bnd6, Option.bind_some, f_Y8_thrown]
      exact fin_1 (show ¬ (1 : Int32) = 0 by decide)
    case qa =>
      rw [R_mk]
      exact hR
  by_cases c2 : 1 ≤ v2 ∧ v2 ≤ 100
  rotate_left
  · skip
    have h1 : f_W_comeIn v1 v2 v3 v4 cp1_acts cp1_nextSlot cp1_hk cp1_st cp1_now_today cp1_now_products cp1_now_itemCount cp1_now_items cp1_now_books cp1_now_terms cp1_now_shelves_lanes cp1_now_shelves_positions cp1_now_shelves_room cp1_now_shelves_gap cp1_now_shelves_places cp1_now_shelves_picked cp1_now_shelves_lot cp1_now_shelves_pieces cp1_now_shelves_mark cp1_now_shelves_byDistance cp1_now_lots_count cp1_now_lots_product cp1_now_lots_last cp1_now_lots_cost cp1_now_lots_state cp1_now_lots_byLast cp1_now_orders_count cp1_now_orders_gifts cp1_now_orders_customer cp1_now_orders_product cp1_now_orders_open cp1_now_orders_due cp1_now_orders_life cp1_now_orders_byDue cp1_now_orders_had cp1_now_orders_stamps cp3 = some (2, cp1_acts, cp1_nextSlot, cp1_hk, cp1_st, cp1_now_books, cp1_now_shelves_lot, cp1_now_shelves_pieces, cp1_now_shelves_mark, cp1_now_lots_count, cp1_now_lots_product, cp1_now_lots_last, cp1_now_lots_cost, cp1_now_lots_state, cp1_now_lots_byLast, cp3) := by
      unfold f_W_comeIn f_X7_comeIn
      rw [e7, if_pos c1]
      simp only [bnd1, bnd15, Option.bind_some, mx, n_range]
      simp only [if_neg c2, mx, Option.bind_some, ↓reduceIte, String.reduceEq]
    have h2 : f_Y8_comeIn v1 v2 v3 v4 cp2_raised cp2_undos cp2_eldest cp2_w cp2_kept cp2_near = some (0, 2, cp2_undos, cp2_eldest, cp2_w, cp2_kept) := by
      unfold f_Y8_comeIn
      rw [e8, if_pos c1]
      simp only [bnd1, bnd2, Option.bind_some, can_t, if_neg one_ne, n_in]
      simp only [if_neg c2, ↓reduceIte]
      unfold f_Y8_comeIn_J56 f_Y8_comeIn_J57
      simp only [bnd2, Option.bind_some, can_f0, ↓reduceIte]
    refine ⟨?wb, ?pb, ?qb⟩
    case pb =>
      rw [fc_6, h1]
      simp only [bnd16, Option.bind_some]
      rw [h2]
      simp only [bnd1, bnd6, Option.bind_some, f_Y8_thrown]
      exact fin_1 (show ¬ (2 : Int32) = 0 by decide)
    case qb =>
      rw [R_mk]
      exact hR
  by_cases c3 : cp1_now_today ≤ v3 ∧ v3 ≤ 2556
  rotate_left
  · skip
    have h1 : f_W_comeIn v1 v2 v3 v4 cp1_acts cp1_nextSlot cp1_hk cp1_st cp1_now_today cp1_now_products cp1_now_itemCount cp1_now_items cp1_now_books cp1_now_terms cp1_now_shelves_lanes cp1_now_shelves_positions cp1_now_shelves_room cp1_now_shelves_gap cp1_now_shelves_places cp1_now_shelves_picked cp1_now_shelves_lot cp1_now_shelves_pieces cp1_now_shelves_mark cp1_now_shelves_byDistance cp1_now_lots_count cp1_now_lots_product cp1_now_lots_last cp1_now_lots_cost cp1_now_lots_state cp1_now_lots_byLast cp1_now_orders_count cp1_now_orders_gifts cp1_now_orders_customer cp1_now_orders_product cp1_now_orders_open cp1_now_orders_due cp1_now_orders_life cp1_now_orders_byDue cp1_now_orders_had cp1_now_orders_stamps cp3 = some (2, cp1_acts, cp1_nextSlot, cp1_hk, cp1_st, cp1_now_books, cp1_now_shelves_lot, cp1_now_shelves_pieces, cp1_now_shelves_mark, cp1_now_lots_count, cp1_now_lots_product, cp1_now_lots_last, cp1_now_lots_cost, cp1_now_lots_state, cp1_now_lots_byLast, cp3) := by
      unfold f_W_comeIn f_X7_comeIn
      rw [e7, if_pos c1]
      simp only [bnd1, bnd15, Option.bind_some, mx, n_range]
      simp only [if_pos c2, if_neg c3, mx, Option.bind_some, ↓reduceIte, String.reduceEq]
    have h2 : f_Y8_comeIn v1 v2 v3 v4 cp2_raised cp2_undos cp2_eldest cp2_w cp2_kept cp2_near = some (0, 2, cp2_undos, cp2_eldest, cp2_w, cp2_kept) := by
      unfold f_Y8_comeIn
      rw [e8, if_pos c1]
      simp only [bnd1, bnd2, Option.bind_some, can_t, if_neg one_ne, n_in]
      simp only [if_pos c2, if_neg one_ne]
      rw [gd_2450 (by decide) (by decide), w0, if_neg c3]
      simp only [↓reduceIte]
      unfold f_Y8_comeIn_J56 f_Y8_comeIn_J57
      simp only [bnd2, Option.bind_some, can_f0, ↓reduceIte]
    refine ⟨?wc, ?pc, ?qc⟩
    case pc =>
      rw [fc_6, h1]
      simp only [bnd16, Option.bind_some]
      rw [h2]
      simp only [bnd1, bnd6, Option.bind_some, f_Y8_thrown]
      exact fin_1 (show ¬ (2 : Int32) = 0 by decide)
    case qc =>
      rw [R_mk]
      exact hR
  by_cases c4 : 0 ≤ v4 ∧ v4 ≤ 9999
  rotate_left
  · skip
    have h1 : f_W_comeIn v1 v2 v3 v4 cp1_acts cp1_nextSlot cp1_hk cp1_st cp1_now_today cp1_now_products cp1_now_itemCount cp1_now_items cp1_now_books cp1_now_terms cp1_now_shelves_lanes cp1_now_shelves_positions cp1_now_shelves_room cp1_now_shelves_gap cp1_now_shelves_places cp1_now_shelves_picked cp1_now_shelves_lot cp1_now_shelves_pieces cp1_now_shelves_mark cp1_now_shelves_byDistance cp1_now_lots_count cp1_now_lots_product cp1_now_lots_last cp1_now_lots_cost cp1_now_lots_state cp1_now_lots_byLast cp1_now_orders_count cp1_now_orders_gifts cp1_now_orders_customer cp1_now_orders_product cp1_now_orders_open cp1_now_orders_due cp1_now_orders_life cp1_now_orders_byDue cp1_now_orders_had cp1_now_orders_stamps cp3 = some (2, cp1_acts, cp1_nextSlot, cp1_hk, cp1_st, cp1_now_books, cp1_now_shelves_lot, cp1_now_shelves_pieces, cp1_now_shelves_mark, cp1_now_lots_count, cp1_now_lots_product, cp1_now_lots_last, cp1_now_lots_cost, cp1_now_lots_state, cp1_now_lots_byLast, cp3) := by
      unfold f_W_comeIn f_X7_comeIn
      rw [e7, if_pos c1]
      simp only [bnd1, bnd15, Option.bind_some, mx, n_range]
      simp only [if_pos c2, if_pos c3, if_neg c4, mx, Option.bind_some, ↓reduceIte, String.reduceEq]
    have h2 : f_Y8_comeIn v1 v2 v3 v4 cp2_raised cp2_undos cp2_eldest cp2_w cp2_kept cp2_near = some (0, 2, cp2_undos, cp2_eldest, cp2_w, cp2_kept) := by
      unfold f_Y8_comeIn
      rw [e8, if_pos c1]
      simp only [bnd1, bnd2, Option.bind_some, can_t, if_neg one_ne, n_in]
      simp only [if_pos c2, if_neg one_ne]
      rw [gd_2450 (by decide) (by decide), w0, if_pos c3]
      simp only [if_neg one_ne, if_neg c4, ↓reduceIte]
      unfold f_Y8_comeIn_J56 f_Y8_comeIn_J57
      simp only [bnd2, Option.bind_some, can_f0, ↓reduceIte]
    refine ⟨?wd, ?pd, ?qd⟩
    case pd =>
      rw [fc_6, h1]
      simp only [bnd16, Option.bind_some]
      rw [h2]
      simp only [bnd1, bnd6, Option.bind_some, f_Y8_thrown]
      exact fin_1 (show ¬ (2 : Int32) = 0 by decide)
    case qd =>
      rw [R_mk]
      exact hR
  by_cases c5 : 24 ≤ cp1_now_lots_count
  · skip
    have h1 : f_W_comeIn v1 v2 v3 v4 cp1_acts cp1_nextSlot cp1_hk cp1_st cp1_now_today cp1_now_products cp1_now_itemCount cp1_now_items cp1_now_books cp1_now_terms cp1_now_shelves_lanes cp1_now_shelves_positions cp1_now_shelves_room cp1_now_shelves_gap cp1_now_shelves_places cp1_now_shelves_picked cp1_now_shelves_lot cp1_now_shelves_pieces cp1_now_shelves_mark cp1_now_shelves_byDistance cp1_now_lots_count cp1_now_lots_product cp1_now_lots_last cp1_now_lots_cost cp1_now_lots_state cp1_now_lots_byLast cp1_now_orders_count cp1_now_orders_gifts cp1_now_orders_customer cp1_now_orders_product cp1_now_orders_open cp1_now_orders_due cp1_now_orders_life cp1_now_orders_byDue cp1_now_orders_had cp1_now_orders_stamps cp3 = some (3, cp1_acts, cp1_nextSlot, cp1_hk, cp1_st, cp1_now_books, cp1_now_shelves_lot, cp1_now_shelves_pieces, cp1_now_shelves_mark, cp1_now_lots_count, cp1_now_lots_product, cp1_now_lots_last, cp1_now_lots_cost, cp1_now_lots_state, cp1_now_lots_byLast, cp3) := by
      unfold f_W_comeIn f_X7_comeIn
      rw [e7, if_pos c1]
      simp only [bnd1, bnd15, Option.bind_some, mx, n_range]
      simp only [if_pos c2, if_pos c3, if_pos c4, if_pos c5]
      unfold f_X7_comeIn_J55
      simp only [bnd1, n_needState, Option.bind_some, mx, ↓reduceIte, String.reduceEq]
    have h2 : f_Y8_comeIn v1 v2 v3 v4 cp2_raised cp2_undos cp2_eldest cp2_w cp2_kept cp2_near = some (0, 3, cp2_undos, cp2_eldest, cp2_w, cp2_kept) := by
      unfold f_Y8_comeIn
      rw [e8, if_pos c1]
      simp only [bnd1, bnd2, Option.bind_some, can_t, if_neg one_ne, n_in]
      simp only [if_pos c2, if_neg one_ne]
      rw [gd_2450 (by decide) (by decide), w0, if_pos c3]
      simp only [if_neg one_ne, if_pos c4]
      unfold f_Y8_comeIn_J57
      simp only [bnd1, bnd2, Option.bind_some, can_t, if_neg one_ne]
      rw [gd_2450 (by decide) (by decide), w6, if_pos c5]
      unfold f_Y8_comeIn_J91 f_Y8_comeIn_J92
      simp only [bnd2, Option.bind_some, can_f0, ↓reduceIte]
    refine ⟨?we, ?pe, ?qe⟩
    case pe =>
      rw [fc_6, h1]
      simp only [bnd16, Option.bind_some]
      rw [h2]
      simp only [bnd1, bnd6, Option.bind_some, f_Y8_thrown]
      exact fin_1 (show ¬ (3 : Int32) = 0 by decide)
    case qe =>
      rw [R_mk]
      exact hR
  have l24 : cp1_now_lots_count < 24 := by clear hR m1 m2 m3; grind
  have l40 : cp1_now_lots_count < 40 := by clear hR m1 m2 m3; grind
  have hw : cp2_w 1 * cp2_w 2 = cp1_now_shelves_places := by rw [d3, d6, d15]
  have p0 : 0 ≤ cp1_now_shelves_places := by clear hR m1 m2 m3; grind
  have f1 := frs_sum (ppc := cp1_now_shelves_pieces) p0 d17
  have f2 := frm_sum p0 d17 hw d9 a3
  obtain ⟨f3, f4⟩ := frs_rng (ppc := cp1_now_shelves_pieces) p0 d17
  obtain ⟨k, k1, k2⟩ := n_room (fr := frs cp1_now_shelves_places cp1_now_shelves_pieces) c2.1 c2.2 d10 d11 (i_le.mp f3) (i_le.mp f4)
  by_cases c6 : frs cp1_now_shelves_places cp1_now_shelves_pieces < k
  · skip
    have h1 : f_W_comeIn v1 v2 v3 v4 cp1_acts cp1_nextSlot cp1_hk cp1_st cp1_now_today cp1_now_products cp1_now_itemCount cp1_now_items cp1_now_books cp1_now_terms cp1_now_shelves_lanes cp1_now_shelves_positions cp1_now_shelves_room cp1_now_shelves_gap cp1_now_shelves_places cp1_now_shelves_picked cp1_now_shelves_lot cp1_now_shelves_pieces cp1_now_shelves_mark cp1_now_shelves_byDistance cp1_now_lots_count cp1_now_lots_product cp1_now_lots_last cp1_now_lots_cost cp1_now_lots_state cp1_now_lots_byLast cp1_now_orders_count cp1_now_orders_gifts cp1_now_orders_customer cp1_now_orders_product cp1_now_orders_open cp1_now_orders_due cp1_now_orders_life cp1_now_orders_byDue cp1_now_orders_had cp1_now_orders_stamps cp3 = some (3, cp1_acts, cp1_nextSlot, cp1_hk, cp1_st, cp1_now_books, cp1_now_shelves_lot, cp1_now_shelves_pieces, cp1_now_shelves_mark, cp1_now_lots_count, cp1_now_lots_product, cp1_now_lots_last, cp1_now_lots_cost, cp1_now_lots_state, cp1_now_lots_byLast, cp3) := by
      unfold f_W_comeIn f_X7_comeIn
      rw [e7, if_pos c1]
      simp only [bnd1, bnd15, Option.bind_some, mx, n_range]
      simp only [if_pos c2, if_pos c3, if_pos c4, if_neg c5]
      unfold f_X7_comeIn_J55
      simp only [bnd1, n_needState, Option.bind_some, mx, if_neg one_ne]
      rw [k1, f1]
      simp only [Option.bind_some, if_pos c6]
      unfold f_X7_comeIn_J87
      simp only [bnd1, n_needState, Option.bind_some, mx, ↓reduceIte, String.reduceEq]
    have h2 : f_Y8_comeIn v1 v2 v3 v4 cp2_raised cp2_undos cp2_eldest cp2_w cp2_kept cp2_near = some (0, 3, cp2_undos, cp2_eldest, cp2_w, cp2_kept) := by
      unfold f_Y8_comeIn
      rw [e8, if_pos c1]
      simp only [bnd1, bnd2, Option.bind_some, can_t, if_neg one_ne, n_in]
      simp only [if_pos c2, if_neg one_ne]
      rw [gd_2450 (by decide) (by decide), w0, if_pos c3]
      simp only [if_neg one_ne, if_pos c4]
      unfold f_Y8_comeIn_J57
      simp only [bnd1, bnd2, Option.bind_some, can_t, if_neg one_ne]
      rw [gd_2450 (by decide) (by decide), w6, if_neg c5, f2]
      simp only [Option.bind_some]
      rw [if_pos (k2.mp c6)]
      unfold f_Y8_comeIn_J91 f_Y8_comeIn_J92
      simp only [bnd2, Option.bind_some, can_f0, ↓reduceIte]
    refine ⟨?wg, ?pg, ?qg⟩
    case pg =>
      rw [fc_6, h1]
      simp only [bnd16, Option.bind_some]
      rw [h2]
      simp only [bnd1, bnd6, Option.bind_some, f_Y8_thrown]
      exact fin_1 (show ¬ (3 : Int32) = 0 by decide)
    case qg =>
      rw [R_mk]
      exact hR
  obtain ⟨y, y1, y2, y3, y4⟩ := ins_loop (c := cp1_now_lots_count) (k := v3) (key := cp1_now_lots_last) (obd := cp1_now_lots_byLast) (g := fun z : Int32 × (Nat → Int32) => f_X1_add_L17 v1 v3 v4 cp1_now_lots_count cp1_now_lots_product cp1_now_lots_last cp1_now_lots_cost cp1_now_lots_state z.1 z.2) d22 l40 a6 (by
    intro n f hn
    dsimp only
    unfold f_X1_add_L17
    rw [if_pos hn]) (by
    intro n f hn hc b0 b1
    dsimp only
    have nn : ¬ n ≤ 0 := by clear hR m1 m2 m3; grind
    have n0 : 0 ≤ n - 1 := by clear hR m1 m2 m3; grind
    have n1 : n - 1 < 24 := by clear hR m1 m2 m3; grind
    have n2 : 0 ≤ n := by clear hR m1 m2 m3; grind
    have n3 : n < 24 := by clear hR m1 m2 m3; grind
    unfold f_X1_add_L17
    rw [if_neg nn, gd_24 n0 n1]
    show bnd1 (f_X1_lastOf (ix f (n - 1)) _ _) _ = _
    unfold f_X1_lastOf
    rw [n_exL _ _ d23, if_pos ⟨b0, b1⟩]
    simp only [bnd1, Option.bind_some, if_neg one_ne]
    rw [gd_24 b0 (by clear hR m1 m2 m3; grind)]
    simp only [Option.bind_some]
    rw [gd_24 n0 n1, gd_24 n2 n3])
  obtain ⟨m, f⟩ := y
  dsimp only at y1 y2 y3 y4
  have hadd : f_X1_add v1 v3 v4 cp1_now_lots_count cp1_now_lots_product cp1_now_lots_last cp1_now_lots_cost cp1_now_lots_state cp1_now_lots_byLast = some (cp1_now_lots_count, cp1_now_lots_count + 1, upd cp1_now_lots_product cp1_now_lots_count.toNatClampNeg v1, upd cp1_now_lots_last cp1_now_lots_count.toNatClampNeg v3, upd cp1_now_lots_cost cp1_now_lots_count.toNatClampNeg v4, upd cp1_now_lots_state cp1_now_lots_count.toNatClampNeg 0, upd f m.toNatClampNeg cp1_now_lots_count) := by
    unfold f_X1_add
    rw [if_pos l24, y1]
    simp only [bnd2, Option.bind_some]
    rw [gd_24 y2 (by clear hR m1 m2 m3; grind), gd_24 d22 l24, gd_24 d22 l24, gd_24 d22 l24, gd_24 d22 l24]
    rw [show cp1_now_lots_count + 1 - 1 = cp1_now_lots_count by clear hR m1 m2 m3; grind]
  have hA0 : ∀ A B : Int32, 0 ≤ A → (B ≤ 6 ∨ (7 ≤ A ∧ B ≤ 207) ∨ 303 ≤ A) → AG A B cp2_w (upd (upd (upd (upd (upd cp2_w (6 : Int32).toNatClampNeg (cp1_now_lots_count + 1)) (207 + cp1_now_lots_count).toNatClampNeg v1) (231 + cp1_now_lots_count).toNatClampNeg v3) (255 + cp1_now_lots_count).toNatClampNeg v4) (279 + cp1_now_lots_count).toNatClampNeg 0) := fun A B hA h => ((((AG.rf.up hA (by clear hR m1 m2 m3; grind) (by clear hR m1 m2 m3; grind)).up hA (by clear hR m1 m2 m3; grind) (by clear hR m1 m2 m3; grind)).up hA (by clear hR m1 m2 m3; grind) (by clear hR m1 m2 m3; grind)).up hA (by clear hR m1 m2 m3; grind) (by clear hR m1 m2 m3; grind)).up hA (by clear hR m1 m2 m3; grind) (by clear hR m1 m2 m3; grind)
  have hw0 : (upd (upd (upd (upd (upd cp2_w (6 : Int32).toNatClampNeg (cp1_now_lots_count + 1)) (207 + cp1_now_lots_count).toNatClampNeg v1) (231 + cp1_now_lots_count).toNatClampNeg v3) (255 + cp1_now_lots_count).toNatClampNeg v4) (279 + cp1_now_lots_count).toNatClampNeg 0) 1 * (upd (upd (upd (upd (upd cp2_w (6 : Int32).toNatClampNeg (cp1_now_lots_count + 1)) (207 + cp1_now_lots_count).toNatClampNeg v1) (231 + cp1_now_lots_count).toNatClampNeg v3) (255 + cp1_now_lots_count).toNatClampNeg v4) (279 + cp1_now_lots_count).toNatClampNeg 0) 2 = cp1_now_shelves_places := by
    have z1 : (upd (upd (upd (upd (upd cp2_w (6 : Int32).toNatClampNeg (cp1_now_lots_count + 1)) (207 + cp1_now_lots_count).toNatClampNeg v1) (231 + cp1_now_lots_count).toNatClampNeg v3) (255 + cp1_now_lots_count).toNatClampNeg v4) (279 + cp1_now_lots_count).toNatClampNeg 0) 1 = cp2_w 1 := hA0 1 3 (by decide) (by decide) 1 (by decide) (by decide)
    have z2 : (upd (upd (upd (upd (upd cp2_w (6 : Int32).toNatClampNeg (cp1_now_lots_count + 1)) (207 + cp1_now_lots_count).toNatClampNeg v1) (231 + cp1_now_lots_count).toNatClampNeg v3) (255 + cp1_now_lots_count).toNatClampNeg v4) (279 + cp1_now_lots_count).toNatClampNeg 0) 2 = cp2_w 2 := hA0 1 3 (by decide) (by decide) 2 (by decide) (by decide)
    rw [z1, z2]; exact hw
  have hr0 : (upd (upd (upd (upd (upd cp2_w (6 : Int32).toNatClampNeg (cp1_now_lots_count + 1)) (207 + cp1_now_lots_count).toNatClampNeg v1) (231 + cp1_now_lots_count).toNatClampNeg v3) (255 + cp1_now_lots_count).toNatClampNeg v4) (279 + cp1_now_lots_count).toNatClampNeg 0) 3 = cp1_now_shelves_room := (hA0 3 4 (by decide) (by decide) 3 (by decide) (by decide)).trans d9
  have hP0 : QP cp1_now_shelves_places cp1_now_shelves_room (cp1_now_lots_count + 1) cp1_now_shelves_lot cp1_now_shelves_pieces cp1_now_shelves_mark (upd (upd (upd (upd (upd cp2_w (6 : Int32).toNatClampNeg (cp1_now_lots_count + 1)) (207 + cp1_now_lots_count).toNatClampNeg v1) (231 + cp1_now_lots_count).toNatClampNeg v3) (255 + cp1_now_lots_count).toNatClampNeg v4) (279 + cp1_now_lots_count).toNatClampNeg 0) := QP_ag d17 (hA0 _ _ (by decide) (by decide)) (QP_lot a3 (by clear hR m1 m2 m3; grind))
  obtain ⟨r, l', p', k', w', u, s1, s2, s3, s4, s5, s6, s7, s8, s9, s10, s11, s12, s13⟩ := s_puts (l := cp1_now_lots_count) (q := v2) (k := 1) d16 d17 d10 d11 hw0 hr0 hP0 hR.2.1 d22 (by clear hR m1 m2 m3; grind) (by clear hR m1 m2 m3; grind) c2.2
  have hr : r = 0 := by
    rcases s13 with z | ⟨z1, z2, z3⟩
    · exact z.1
    · rw [z2] at z3; exact absurd (k2.mpr z3) c6
  rw [hr] at s2 s6
  rw [Int32.sub_zero] at s6
  obtain ⟨hd, g1, g2⟩ := a14
  have g3 : hd = isum (ix cp1_now_shelves_pieces) cp1_now_shelves_places.toNatClampNeg := by
    rw [hand_sum p0 d17] at g1; exact (Option.some.inj g1).symm
  · skip
    have h1 : f_W_comeIn v1 v2 v3 v4 cp1_acts cp1_nextSlot cp1_hk cp1_st cp1_now_today cp1_now_products cp1_now_itemCount cp1_now_items cp1_now_books cp1_now_terms cp1_now_shelves_lanes cp1_now_shelves_positions cp1_now_shelves_room cp1_now_shelves_gap cp1_now_shelves_places cp1_now_shelves_picked cp1_now_shelves_lot cp1_now_shelves_pieces cp1_now_shelves_mark cp1_now_shelves_byDistance cp1_now_lots_count cp1_now_lots_product cp1_now_lots_last cp1_now_lots_cost cp1_now_lots_state cp1_now_lots_byLast cp1_now_orders_count cp1_now_orders_gifts cp1_now_orders_customer cp1_now_orders_product cp1_now_orders_open cp1_now_orders_due cp1_now_orders_life cp1_now_orders_byDue cp1_now_orders_had cp1_now_orders_stamps cp3 = some (0, a', ns', hk', st', (upd cp1_now_books (0 : Int32).toNatClampNeg (cp1_now_books 0 + v2)), l', p', k', cp1_now_lots_count + 1, upd cp1_now_lots_product cp1_now_lots_count.toNatClampNeg v1, upd cp1_now_lots_last cp1_now_lots_count.toNatClampNeg v3, upd cp1_now_lots_cost cp1_now_lots_count.toNatClampNeg v4, upd cp1_now_lots_state cp1_now_lots_count.toNatClampNeg 0, upd f m.toNatClampNeg cp1_now_lots_count, vp_updL cp3 (0 : Int32).toNatClampNeg cp1_now_lots_count.toInt64) := by
      unfold f_W_comeIn f_X7_comeIn
      rw [e7, if_pos c1]
      simp only [bnd1, bnd15, Option.bind_some, mx, n_range]
      simp only [if_pos c2, if_pos c3, if_pos c4, if_neg c5]
      unfold f_X7_comeIn_J55
      simp only [bnd1, n_needState, Option.bind_some, mx, if_neg one_ne]
      rw [k1, f1]
      simp only [Option.bind_some, if_neg c6]
      unfold f_X7_comeIn_J87
      simp only [bnd1, bnd3, bnd4, bnd7, n_needState, Option.bind_some, mx, if_neg one_ne]
      rw [m1]
      simp only [Option.bind_some]
      rw [hadd]
      simp only [Option.bind_some]
      rw [s1]
      simp only [Option.bind_some]
      rw [gd_6 (by decide) (by decide), gd_6 (by decide) (by decide)]
      simp only [Option.bind_some]
      rw [gd_1 (by decide) (by decide)]
      rfl
    have h2 : f_Y8_comeIn v1 v2 v3 v4 cp2_raised cp2_undos cp2_eldest cp2_w cp2_kept cp2_near = some (cp1_now_lots_count, 0, u', e', (upd w' (9 : Int32).toNatClampNeg (cp2_w 9 + v2)), kp') := by
      unfold f_Y8_comeIn
      rw [e8, if_pos c1]
      simp only [bnd1, bnd2, Option.bind_some, can_t, if_neg one_ne, n_in]
      simp only [if_pos c2, if_neg one_ne]
      rw [gd_2450 (by decide) (by decide), w0, if_pos c3]
      simp only [if_neg one_ne, if_pos c4]
      unfold f_Y8_comeIn_J57
      simp only [bnd1, bnd2, Option.bind_some, can_t, if_neg one_ne]
      rw [gd_2450 (by decide) (by decide), w6, if_neg c5, f2]
      simp only [Option.bind_some]
      rw [if_neg (fun z => c6 (k2.mpr z))]
      unfold f_Y8_comeIn_J92
      simp only [bnd2, bnd3, Option.bind_some, can_t, if_neg one_ne]
      rw [m2]
      simp only [Option.bind_some]
      rw [gd_2450 (by decide) (by decide), gd_2450 (by decide) (by decide), gd_2450 (by decide) (by decide), w6, gd_2450 (by clear hR m1 m2 m3; grind) (by clear hR m1 m2 m3; grind), gd_2450 (by clear hR m1 m2 m3; grind) (by clear hR m1 m2 m3; grind), gd_2450 (by clear hR m1 m2 m3; grind) (by clear hR m1 m2 m3; grind), gd_2450 (by clear hR m1 m2 m3; grind) (by clear hR m1 m2 m3; grind), gd_2450 (by decide) (by decide), s2]
      simp only [Option.bind_some, Int32.sub_zero]
      rw [gd_2450 (by decide) (by decide)]
      have z9 : (upd (upd (upd (upd (upd cp2_w (6 : Int32).toNatClampNeg (cp1_now_lots_count + 1)) (207 + cp1_now_lots_count).toNatClampNeg v1) (231 + cp1_now_lots_count).toNatClampNeg v3) (255 + cp1_now_lots_count).toNatClampNeg v4) (279 + cp1_now_lots_count).toNatClampNeg 0) (9 : Int32).toNatClampNeg = cp2_w 9 := hA0 9 10 (by decide) (by decide) 9 (by decide) (by decide)
      rw [z9]
    have hAG : ∀ A B : Int32, 0 ≤ A → (B ≤ 6 ∨ (7 ≤ A ∧ B ≤ 9) ∨ (10 ≤ A ∧ B ≤ 15) ∨ (159 ≤ A ∧ B ≤ 207) ∨ (303 ≤ A ∧ B ≤ 2450)) → AG A B cp2_w (upd w' (9 : Int32).toNatClampNeg (cp2_w 9 + v2)) := fun A B hA h => by
      have hz := hA0 A B hA (by clear hR m1 m2 m3; grind)
      refine AG.up ?_ hA (by decide) (by clear hR m1 m2 m3; grind)
      rcases h with h | ⟨h, k⟩ | ⟨h, k⟩ | ⟨h, k⟩ | ⟨h, k⟩
      · exact hz.tr (s4.sub hA (by clear hR m1 m2 m3; grind))
      · exact hz.tr (s4.sub hA (by clear hR m1 m2 m3; grind))
      · exact hz.tr (s4.sub hA (by clear hR m1 m2 m3; grind))
      · exact hz.tr (s5.sub h (by clear hR m1 m2 m3; grind))
      · exact hz.tr (s5.sub (by clear hR m1 m2 m3; grind) k)
    have hWL : ∀ i : Int32, 159 ≤ i → i < 2450 → ix (upd w' (9 : Int32).toNatClampNeg (cp2_w 9 + v2)) i = ix (upd (upd (upd (upd (upd cp2_w (6 : Int32).toNatClampNeg (cp1_now_lots_count + 1)) (207 + cp1_now_lots_count).toNatClampNeg v1) (231 + cp1_now_lots_count).toNatClampNeg v3) (255 + cp1_now_lots_count).toNatClampNeg v4) (279 + cp1_now_lots_count).toNatClampNeg 0) i := fun i i0 i1 => by
      show (upd w' (9 : Int32).toNatClampNeg (cp2_w 9 + v2)) i.toNatClampNeg = _
      rw [upd_ne (by decide) (by clear hR m1 m2 m3; grind) (by clear hR m1 m2 m3; grind)]
      exact s5 i i0 i1
    have t6 : (upd w' (9 : Int32).toNatClampNeg (cp2_w 9 + v2)) 6 = cp1_now_lots_count + 1 := by
      show (upd w' (9 : Int32).toNatClampNeg (cp2_w 9 + v2)) (6 : Int32).toNatClampNeg = _
      rw [upd_ne (by decide) (by decide) (by decide)]
      refine (s4 6 (by decide) (by decide)).trans ?_
      show (upd (upd (upd (upd (upd cp2_w (6 : Int32).toNatClampNeg (cp1_now_lots_count + 1)) (207 + cp1_now_lots_count).toNatClampNeg v1) (231 + cp1_now_lots_count).toNatClampNeg v3) (255 + cp1_now_lots_count).toNatClampNeg v4) (279 + cp1_now_lots_count).toNatClampNeg 0) (6 : Int32).toNatClampNeg = _
      rw [upd_ne (by clear hR m1 m2 m3; grind) (by clear hR m1 m2 m3; grind) (by clear hR m1 m2 m3; grind), upd_ne (by clear hR m1 m2 m3; grind) (by clear hR m1 m2 m3; grind) (by clear hR m1 m2 m3; grind), upd_ne (by clear hR m1 m2 m3; grind) (by clear hR m1 m2 m3; grind) (by clear hR m1 m2 m3; grind), upd_ne (by clear hR m1 m2 m3; grind) (by clear hR m1 m2 m3; grind) (by clear hR m1 m2 m3; grind), upd_same]
    have t9 : (upd w' (9 : Int32).toNatClampNeg (cp2_w 9 + v2)) 9 = cp2_w 9 + v2 := by
      show (upd w' (9 : Int32).toNatClampNeg (cp2_w 9 + v2)) (9 : Int32).toNatClampNeg = _
      rw [upd_same]
    have q1 : QD cp1_now_today cp1_now_products cp1_now_shelves_lanes cp1_now_shelves_positions cp1_now_shelves_room cp1_now_shelves_gap cp1_now_shelves_places (cp1_now_lots_count + 1) cp1_now_orders_count (upd w' (9 : Int32).toNatClampNeg (cp2_w 9 + v2)) := by
      have z : AG 0 6 cp2_w (upd w' (9 : Int32).toNatClampNeg (cp2_w 9 + v2)) := hAG 0 6 (by decide) (by decide)
      have z7 : AG 7 9 cp2_w (upd w' (9 : Int32).toNatClampNeg (cp2_w 9 + v2)) := hAG 7 9 (by decide) (by decide)
      exact ⟨(z 0 (by decide) (by decide)).trans d0, d1, d2, (z 1 (by decide) (by decide)).trans d3, d4, d5, (z 2 (by decide) (by decide)).trans d6, d7, d8, (z 3 (by decide) (by decide)).trans d9, d10, d11, (z 4 (by decide) (by decide)).trans d12, d13, d14, d15, d16, d17, (z 5 (by decide) (by decide)).trans d18, d19, d20, t6, by clear hR m1 m2 m3; grind, by clear hR m1 m2 m3; grind, (z7 7 (by decide) (by decide)).trans d24, d25, d26⟩
    have q2b : QB (upd cp1_now_books (0 : Int32).toNatClampNeg (cp1_now_books 0 + v2)) (upd w' (9 : Int32).toNatClampNeg (cp2_w 9 + v2)) := by
      intro n n1 n2
      by_cases hn : n = 0
      · subst hn
        show (upd w' (9 : Int32).toNatClampNeg (cp2_w 9 + v2)) 9 = cp1_now_books 0 + v2
        rw [t9, show cp2_w 9 = cp1_now_books 0 from a2 0 (by decide) (by decide)]
      · rw [hAG 10 15 (by decide) (by decide) _ (by clear hR m1 m2 m3; grind) (by clear hR m1 m2 m3; grind), a2 n n1 n2]
        show _ = upd cp1_now_books (0 : Int32).toNatClampNeg (cp1_now_books 0 + v2) n.toNatClampNeg
        rw [upd_ne (by decide) n1 hn]
    have q5 := QL_new (w' := (upd w' (9 : Int32).toNatClampNeg (cp2_w 9 + v2))) d22 l24 a5 c1 ⟨by clear hR m1 m2 m3; grind, c3.2⟩ c4 (by
      intro n n0 n1
      refine ⟨?_, ?_, ?_, ?_⟩
      · rw [hWL _ (by clear hR m1 m2 m3; grind) (by clear hR m1 m2 m3; grind)]; unfold ix; by_cases hn : n = cp1_now_lots_count
        · subst hn; rw [if_pos rfl, upd_ne (by clear hR m1 m2 m3; grind) (by clear hR m1 m2 m3; grind) (by clear hR m1 m2 m3; grind), upd_ne (by clear hR m1 m2 m3; grind) (by clear hR m1 m2 m3; grind) (by clear hR m1 m2 m3; grind), upd_ne (by clear hR m1 m2 m3; grind) (by clear hR m1 m2 m3; grind) (by clear hR m1 m2 m3; grind), upd_same]
        · rw [if_neg hn, upd_ne (by clear hR m1 m2 m3; grind) (by clear hR m1 m2 m3; grind) (by clear hR m1 m2 m3; grind), upd_ne (by clear hR m1 m2 m3; grind) (by clear hR m1 m2 m3; grind) (by clear hR m1 m2 m3; grind), upd_ne (by clear hR m1 m2 m3; grind) (by clear hR m1 m2 m3; grind) (by clear hR m1 m2 m3; grind), upd_ne (by clear hR m1 m2 m3; grind) (by clear hR m1 m2 m3; grind) (by clear hR m1 m2 m3; grind), upd_ne (by clear hR m1 m2 m3; grind) (by clear hR m1 m2 m3; grind) (by clear hR m1 m2 m3; grind)]
      · rw [hWL _ (by clear hR m1 m2 m3; grind) (by clear hR m1 m2 m3; grind)]; unfold ix; by_cases hn : n = cp1_now_lots_count
        · subst hn; rw [if_pos rfl, upd_ne (by clear hR m1 m2 m3; grind) (by clear hR m1 m2 m3; grind) (by clear hR m1 m2 m3; grind), upd_ne (by clear hR m1 m2 m3; grind) (by clear hR m1 m2 m3; grind) (by clear hR m1 m2 m3; grind), upd_same]
        · rw [if_neg hn, upd_ne (by clear hR m1 m2 m3; grind) (by clear hR m1 m2 m3; grind) (by clear hR m1 m2 m3; grind), upd_ne (by clear hR m1 m2 m3; grind) (by clear hR m1 m2 m3; grind) (by clear hR m1 m2 m3; grind), upd_ne (by clear hR m1 m2 m3; grind) (by clear hR m1 m2 m3; grind) (by clear hR m1 m2 m3; grind), upd_ne (by clear hR m1 m2 m3; grind) (by clear hR m1 m2 m3; grind) (by clear hR m1 m2 m3; grind), upd_ne (by clear hR m1 m2 m3; grind) (by clear hR m1 m2 m3; grind) (by clear hR m1 m2 m3; grind)]
      · rw [hWL _ (by clear hR m1 m2 m3; grind) (by clear hR m1 m2 m3; grind)]; unfold ix; by_cases hn : n = cp1_now_lots_count
        · subst hn; rw [if_pos rfl, upd_ne (by clear hR m1 m2 m3; grind) (by clear hR m1 m2 m3; grind) (by clear hR m1 m2 m3; grind), upd_same]
        · rw [if_neg hn, upd_ne (by clear hR m1 m2 m3; grind) (by clear hR m1 m2 m3; grind) (by clear hR m1 m2 m3; grind), upd_ne (by clear hR m1 m2 m3; grind) (by clear hR m1 m2 m3; grind) (by clear hR m1 m2 m3; grind), upd_ne (by clear hR m1 m2 m3; grind) (by clear hR m1 m2 m3; grind) (by clear hR m1 m2 m3; grind), upd_ne (by clear hR m1 m2 m3; grind) (by clear hR m1 m2 m3; grind) (by clear hR m1 m2 m3; grind), upd_ne (by clear hR m1 m2 m3; grind) (by clear hR m1 m2 m3; grind) (by clear hR m1 m2 m3; grind)]
      · rw [hWL _ (by clear hR m1 m2 m3; grind) (by clear hR m1 m2 m3; grind)]; unfold ix; by_cases hn : n = cp1_now_lots_count
        · subst hn; rw [if_pos rfl, upd_same]
        · rw [if_neg hn, upd_ne (by clear hR m1 m2 m3; grind) (by clear hR m1 m2 m3; grind) (by clear hR m1 m2 m3; grind), upd_ne (by clear hR m1 m2 m3; grind) (by clear hR m1 m2 m3; grind) (by clear hR m1 m2 m3; grind), upd_ne (by clear hR m1 m2 m3; grind) (by clear hR m1 m2 m3; grind) (by clear hR m1 m2 m3; grind), upd_ne (by clear hR m1 m2 m3; grind) (by clear hR m1 m2 m3; grind) (by clear hR m1 m2 m3; grind), upd_ne (by clear hR m1 m2 m3; grind) (by clear hR m1 m2 m3; grind) (by clear hR m1 m2 m3; grind)])
    have q3 : QP cp1_now_shelves_places cp1_now_shelves_room (cp1_now_lots_count + 1) l' p' k' (upd w' (9 : Int32).toNatClampNeg (cp2_w 9 + v2)) := QP_ag d17 (AG.rf.up (by decide) (by decide) (by decide)) s3
    have q9 := QH_lot (lcn' := cp1_now_lots_count + 1) (QH_ag d26 (hAG _ _ (by decide) (by decide)) a9) (by clear hR m1 m2 m3; grind)
    have q14 : QA cp1_now_shelves_places (upd cp1_now_books (0 : Int32).toNatClampNeg (cp1_now_books 0 + v2)) p' := by
      refine ⟨hd + v2, ?_, ?_⟩
      · rw [hand_sum p0 d17, s6, g3]
      · show ((cp1_now_books 0 + v2) + cp1_now_books 2 + cp1_now_books 5) - (cp1_now_books 1 + cp1_now_books 3 + cp1_now_books 4) = hd + v2
        rw [← g2]; clear hR m1 m2 m3; grind
    refine ⟨?wf, ?pf, ?qf⟩
    case pf =>
      rw [fc_6, h1]
      simp only [bnd16, Option.bind_some]
      rw [h2]
      simp only [bnd1, bnd6, Option.bind_some, f_Y8_thrown]
      refine fin_0 ?_
      rfl
    case qf =>
      rw [R_mk]
      refine ⟨?_, hR.2.1, m3, hR.2.2.2⟩
      rw [RS_mk]
      exact ⟨q1, q2b, q3, QK_ag (hAG _ _ (by decide) (by decide)) a4, q5, y4, QO_ag d26 (hAG _ _ (by decide) (by decide)) a7, a8, q9, QG_ag d25 d26 (hAG _ _ (by decide) (by decide)) (hAG _ _ (by decide) (by decide)) a10, a11, QI_ag (hAG _ _ (by decide) (by decide)) a12, QT_ag (hAG _ _ (by decide) (by decide)) a13, q14, a15⟩

