set_option maxRecDepth 4000 in
theorem cs_18 (PL : (Nat → Int32) → (Nat → Int32) → (Nat → Int32) → (Nat → Int64) → (Nat → Int64) → (Nat → Int32) → Prop) (cp1_acts : Int32) (cp1_nextSlot : Int32) (cp1_now_today : Int32) (cp1_now_products : Int32) (cp1_now_itemCount : Int32) (cp1_now_items : Nat → Int32) (cp1_now_books : Nat → Int32) (cp1_now_terms : Nat → Int32) (cp1_now_shelves_lanes : Int32) (cp1_now_shelves_positions : Int32) (cp1_now_shelves_room : Int32) (cp1_now_shelves_gap : Int32) (cp1_now_shelves_places : Int32) (cp1_now_shelves_picked : Int64) (cp1_now_shelves_lot : Nat → Int32) (cp1_now_shelves_pieces : Nat → Int32) (cp1_now_shelves_mark : Nat → Int32) (cp1_now_shelves_byDistance : Nat → Int32) (cp1_now_lots_count : Int32) (cp1_now_lots_product : Nat → Int32) (cp1_now_lots_last : Nat → Int32) (cp1_now_lots_cost : Nat → Int32) (cp1_now_lots_state : Nat → Int32) (cp1_now_lots_byLast : Nat → Int32) (cp1_now_orders_count : Int32) (cp1_now_orders_gifts : Int32) (cp1_now_orders_customer : Nat → Int32) (cp1_now_orders_product : Nat → Int32) (cp1_now_orders_open : Nat → Int32) (cp1_now_orders_due : Nat → Int32) (cp1_now_orders_life : Nat → Int32) (cp1_now_orders_byDue : Nat → Int32) (cp1_now_orders_had : Nat → Int32) (cp1_now_orders_stamps : Nat → Int32) (cp1_hk : Nat) (cp1_st : Nat → StT) (cp1_plan_terms : Nat → Int32) (cp1_plan_low : Nat → Int32) (cp1_plan_high : Nat → Int32) (cp1_plan_bottom : Nat → Int64) (cp1_plan_cost : Nat → Int64) (cp1_plan_act : Nat → Int32) (cp1_picker_deepest : Int32) (cp1_picker_shallowest : Int32) (cp1_picker_widest : Int32) (cp1_picker_least : Nat → Int32) (cp1_picker_next : Nat → Int32) (cp1_rest : Nat → Int32) (cp1_packed : Nat → Int32) (cp2_raised : Int32) (cp2_undos : Int32) (cp2_eldest : Int32) (cp2_w : Nat → Int32) (cp2_kept : Nat → Int32) (cp2_copy : Nat → Int32) (cp2_near : Nat → Int32) (cp2_isDone : Nat → Int32) (cp2_lane : Nat → Int32) (cp2_position : Nat → Int32) (cp2_least : Nat → Int32) (cp2_boxesOf : Nat → Int32) (cp2_staying : Nat → Int64) (cp2_planned : Nat → Int64) (cp2_scale : Nat → Int64) (cp3 : Nat → Int64) (v1 v2 v3 v4 v5 : Int32) (hR : RC PL (cp1_now_today, cp1_now_products, cp1_now_itemCount, cp1_now_items, cp1_now_books, cp1_now_terms, cp1_now_shelves_lanes, cp1_now_shelves_positions, cp1_now_shelves_room, cp1_now_shelves_gap, cp1_now_shelves_places, cp1_now_shelves_picked, cp1_now_shelves_lot, cp1_now_shelves_pieces, cp1_now_shelves_mark, cp1_now_shelves_byDistance, cp1_now_lots_count, cp1_now_lots_product, cp1_now_lots_last, cp1_now_lots_cost, cp1_now_lots_state, cp1_now_lots_byLast, cp1_now_orders_count, cp1_now_orders_gifts, cp1_now_orders_customer, cp1_now_orders_product, cp1_now_orders_open, cp1_now_orders_due, cp1_now_orders_life, cp1_now_orders_byDue, cp1_now_orders_had, cp1_now_orders_stamps) cp2_w cp2_near cp1_acts cp1_nextSlot cp1_hk cp1_st cp2_undos cp2_eldest cp2_kept cp1_plan_terms cp1_plan_low cp1_plan_high cp1_plan_bottom cp1_plan_cost cp1_plan_act) : ∃ z', f_c18 v1 v2 v3 v4 v5 (cp1_acts, cp1_nextSlot, cp1_now_today, cp1_now_products, cp1_now_itemCount, cp1_now_items, cp1_now_books, cp1_now_terms, cp1_now_shelves_lanes, cp1_now_shelves_positions, cp1_now_shelves_room, cp1_now_shelves_gap, cp1_now_shelves_places, cp1_now_shelves_picked, cp1_now_shelves_lot, cp1_now_shelves_pieces, cp1_now_shelves_mark, cp1_now_shelves_byDistance, cp1_now_lots_count, cp1_now_lots_product, cp1_now_lots_last, cp1_now_lots_cost, cp1_now_lots_state, cp1_now_lots_byLast, cp1_now_orders_count, cp1_now_orders_gifts, cp1_now_orders_customer, cp1_now_orders_product, cp1_now_orders_open, cp1_now_orders_due, cp1_now_orders_life, cp1_now_orders_byDue, cp1_now_orders_had, cp1_now_orders_stamps, cp1_hk, cp1_st, cp1_plan_terms, cp1_plan_low, cp1_plan_high, cp1_plan_bottom, cp1_plan_cost, cp1_plan_act, cp1_picker_deepest, cp1_picker_shallowest, cp1_picker_widest, cp1_picker_least, cp1_picker_next, cp1_rest, cp1_packed, cp2_raised, cp2_undos, cp2_eldest, cp2_w, cp2_kept, cp2_copy, cp2_near, cp2_isDone, cp2_lane, cp2_position, cp2_least, cp2_boxesOf, cp2_staying, cp2_planned, cp2_scale, cp3) = some z' ∧ R PL z' := by
  have hS := hR.1
  rw [RS_mk] at hS
  obtain ⟨a1, a2, a3, a4, a5, a6, a7, a8, a9, a10, a11, a12, a13, a14, a15⟩ := hS
  have a0 := a1
  obtain ⟨d0, d1, d2, d3, d4, d5, d6, d7, d8, d9, d10, d11, d12, d13, d14, d15, d16, d17, d18, d19, d20, d21, d22, d23, d24, d25, d26⟩ := a0
  obtain ⟨a', ns', hk', st', u', e', k', m1, m2, m3⟩ := remember_keep hR.1 hR.2.2.1
  have m1 : f_X7_remember cp1_acts cp1_nextSlot cp1_hk cp1_st cp1_now_today cp1_now_products cp1_now_itemCount cp1_now_items cp1_now_books cp1_now_terms cp1_now_shelves_lanes cp1_now_shelves_positions cp1_now_shelves_room cp1_now_shelves_gap cp1_now_shelves_places cp1_now_shelves_picked cp1_now_shelves_lot cp1_now_shelves_pieces cp1_now_shelves_mark cp1_now_shelves_byDistance cp1_now_lots_count cp1_now_lots_product cp1_now_lots_last cp1_now_lots_cost cp1_now_lots_state cp1_now_lots_byLast cp1_now_orders_count cp1_now_orders_gifts cp1_now_orders_customer cp1_now_orders_product cp1_now_orders_open cp1_now_orders_due cp1_now_orders_life cp1_now_orders_byDue cp1_now_orders_had cp1_now_orders_stamps = some (a', ns', hk', st') := m1
  have hw : cp2_w 1 * cp2_w 2 = cp1_now_shelves_places := by rw [d3, d6, d15]
  have e7 : f_X7_needPlace v1 cp1_now_shelves_places = _ := n_needPlace v1 cp1_now_shelves_places d17
  have e8 : f_Y8_isPlace v1 cp2_w = _ := n_isPlace v1 cp2_w (by rw [hw]; clear hR m1 m2 m3; grind) (by rw [hw]; exact d17)
  rw [hw] at e8
  by_cases c1 : 0 ≤ v1 ∧ v1 < cp1_now_shelves_places
  rotate_left
  · skip
    have h1 : f_W_scrap v1 v2 cp1_acts cp1_nextSlot cp1_hk cp1_st cp1_now_today cp1_now_products cp1_now_itemCount cp1_now_items cp1_now_books cp1_now_terms cp1_now_shelves_lanes cp1_now_shelves_positions cp1_now_shelves_room cp1_now_shelves_gap cp1_now_shelves_places cp1_now_shelves_picked cp1_now_shelves_lot cp1_now_shelves_pieces cp1_now_shelves_mark cp1_now_shelves_byDistance cp1_now_lots_count cp1_now_lots_product cp1_now_lots_last cp1_now_lots_cost cp1_now_lots_state cp1_now_lots_byLast cp1_now_orders_count cp1_now_orders_gifts cp1_now_orders_customer cp1_now_orders_product cp1_now_orders_open cp1_now_orders_due cp1_now_orders_life cp1_now_orders_byDue cp1_now_orders_had cp1_now_orders_stamps cp3 = some (1, cp1_acts, cp1_nextSlot, cp1_hk, cp1_st, cp1_now_books, cp1_now_shelves_lot, cp1_now_shelves_pieces, cp1_now_shelves_mark, cp3) := by
      unfold f_W_scrap f_X7_scrap f_X7_scrap_J33
      rw [e7, if_neg c1]
      simp only [bnd1, bnd9, Option.bind_some, mx, ↓reduceIte]
    have h2 : f_Y8_scrap v1 v2 cp2_raised cp2_undos cp2_eldest cp2_w cp2_kept = some (0, 1, cp2_undos, cp2_eldest, cp2_w, cp2_kept) := by
      unfold f_Y8_scrap f_Y8_scrap_J47
      rw [e8, if_neg c1]
      simp only [bnd1, bnd2, Option.bind_some, can_f0, ↓reduceIte]
    refine ⟨?wa, ?pa, ?qa⟩
    case pa =>
      rw [fc_18, h1]
      simp only [bnd10, Option.bind_some]
      rw [h2]
      simp only [bnd1, bnd6, Option.bind_some, f_Y8_thrown]
      exact fin_1 (show ¬ (1 : Int32) = 0 by decide)
    case qa =>
      rw [R_mk]
      exact hR
  by_cases c2 : 1 ≤ v2 ∧ v2 ≤ 20
  rotate_left
  · skip
    have h1 : f_W_scrap v1 v2 cp1_acts cp1_nextSlot cp1_hk cp1_st cp1_now_today cp1_now_products cp1_now_itemCount cp1_now_items cp1_now_books cp1_now_terms cp1_now_shelves_lanes cp1_now_shelves_positions cp1_now_shelves_room cp1_now_shelves_gap cp1_now_shelves_places cp1_now_shelves_picked cp1_now_shelves_lot cp1_now_shelves_pieces cp1_now_shelves_mark cp1_now_shelves_byDistance cp1_now_lots_count cp1_now_lots_product cp1_now_lots_last cp1_now_lots_cost cp1_now_lots_state cp1_now_lots_byLast cp1_now_orders_count cp1_now_orders_gifts cp1_now_orders_customer cp1_now_orders_product cp1_now_orders_open cp1_now_orders_due cp1_now_orders_life cp1_now_orders_byDue cp1_now_orders_had cp1_now_orders_stamps cp3 = some (2, cp1_acts, cp1_nextSlot, cp1_hk, cp1_st, cp1_now_books, cp1_now_shelves_lot, cp1_now_shelves_pieces, cp1_now_shelves_mark, cp3) := by
      unfold f_W_scrap f_X7_scrap f_X7_scrap_J33
      rw [e7, if_pos c1, n_range, if_neg c2]
      simp only [bnd1, bnd9, Option.bind_some, mx, ↓reduceIte, String.reduceEq]
    have h2 : f_Y8_scrap v1 v2 cp2_raised cp2_undos cp2_eldest cp2_w cp2_kept = some (0, 2, cp2_undos, cp2_eldest, cp2_w, cp2_kept) := by
      unfold f_Y8_scrap f_Y8_scrap_J47
      rw [e8, if_pos c1]
      simp only [bnd1, bnd2, Option.bind_some, can_t, if_neg one_ne, n_in, if_neg c2, can_f0, ↓reduceIte]
    refine ⟨?wb, ?pb, ?qb⟩
    case pb =>
      rw [fc_18, h1]
      simp only [bnd10, Option.bind_some]
      rw [h2]
      simp only [bnd1, bnd6, Option.bind_some, f_Y8_thrown]
      exact fin_1 (show ¬ (2 : Int32) = 0 by decide)
    case qb =>
      rw [R_mk]
      exact hR
  have q1 := c1.1
  have q2 := c1.2
  obtain ⟨b1, b2, b3, b4, b5, b6⟩ := a3 v1 q1 q2
  have b2' : cp2_w (63 + v1).toNatClampNeg = cp1_now_shelves_pieces v1.toNatClampNeg := b2
  by_cases c3 : cp1_now_shelves_pieces v1.toNatClampNeg < v2
  · skip
    have h1 : f_W_scrap v1 v2 cp1_acts cp1_nextSlot cp1_hk cp1_st cp1_now_today cp1_now_products cp1_now_itemCount cp1_now_items cp1_now_books cp1_now_terms cp1_now_shelves_lanes cp1_now_shelves_positions cp1_now_shelves_room cp1_now_shelves_gap cp1_now_shelves_places cp1_now_shelves_picked cp1_now_shelves_lot cp1_now_shelves_pieces cp1_now_shelves_mark cp1_now_shelves_byDistance cp1_now_lots_count cp1_now_lots_product cp1_now_lots_last cp1_now_lots_cost cp1_now_lots_state cp1_now_lots_byLast cp1_now_orders_count cp1_now_orders_gifts cp1_now_orders_customer cp1_now_orders_product cp1_now_orders_open cp1_now_orders_due cp1_now_orders_life cp1_now_orders_byDue cp1_now_orders_had cp1_now_orders_stamps cp3 = some (3, cp1_acts, cp1_nextSlot, cp1_hk, cp1_st, cp1_now_books, cp1_now_shelves_lot, cp1_now_shelves_pieces, cp1_now_shelves_mark, cp3) := by
      unfold f_W_scrap f_X7_scrap f_X7_scrap_J33
      rw [e7, if_pos c1, n_range, if_pos c2]
      simp only [bnd1, bnd9, Option.bind_some, mx]
      rw [gd_48 q1 (by clear hR m1 m2 m3; grind), if_pos c3]
      simp only [n_needState, Option.bind_some, mx, ↓reduceIte, String.reduceEq]
    have h2 : f_Y8_scrap v1 v2 cp2_raised cp2_undos cp2_eldest cp2_w cp2_kept = some (0, 3, cp2_undos, cp2_eldest, cp2_w, cp2_kept) := by
      unfold f_Y8_scrap f_Y8_scrap_J47
      rw [e8, if_pos c1]
      simp only [bnd1, bnd2, Option.bind_some, can_t, if_neg one_ne, n_in, if_pos c2]
      rw [gd_2450 (by clear hR m1 m2 m3; grind) (by clear hR m1 m2 m3; grind), b2', if_pos c3]
      simp only [Option.bind_some, can_f0, ↓reduceIte]
    refine ⟨?wc, ?pc, ?qc⟩
    case pc =>
      rw [fc_18, h1]
      simp only [bnd10, Option.bind_some]
      rw [h2]
      simp only [bnd1, bnd6, Option.bind_some, f_Y8_thrown]
      exact fin_1 (show ¬ (3 : Int32) = 0 by decide)
    case qc =>
      rw [R_mk]
      exact hR
  · skip
    have hpp : cp1_now_shelves_pieces v1.toNatClampNeg = ix cp1_now_shelves_pieces v1 := rfl
    have hll : cp1_now_shelves_lot v1.toNatClampNeg = ix cp1_now_shelves_lot v1 := rfl
    have h1 : f_W_scrap v1 v2 cp1_acts cp1_nextSlot cp1_hk cp1_st cp1_now_today cp1_now_products cp1_now_itemCount cp1_now_items cp1_now_books cp1_now_terms cp1_now_shelves_lanes cp1_now_shelves_positions cp1_now_shelves_room cp1_now_shelves_gap cp1_now_shelves_places cp1_now_shelves_picked cp1_now_shelves_lot cp1_now_shelves_pieces cp1_now_shelves_mark cp1_now_shelves_byDistance cp1_now_lots_count cp1_now_lots_product cp1_now_lots_last cp1_now_lots_cost cp1_now_lots_state cp1_now_lots_byLast cp1_now_orders_count cp1_now_orders_gifts cp1_now_orders_customer cp1_now_orders_product cp1_now_orders_open cp1_now_orders_due cp1_now_orders_life cp1_now_orders_byDue cp1_now_orders_had cp1_now_orders_stamps cp3 = some (0, a', ns', hk', st', (upd cp1_now_books (3 : Int32).toNatClampNeg (cp1_now_books 3 + v2)), upd cp1_now_shelves_lot v1.toNatClampNeg (if ix cp1_now_shelves_pieces v1 - v2 = 0 then -1 else ix cp1_now_shelves_lot v1), upd cp1_now_shelves_pieces v1.toNatClampNeg (ix cp1_now_shelves_pieces v1 - v2), upd cp1_now_shelves_mark v1.toNatClampNeg 5, vp_updL cp3 (0 : Int32).toNatClampNeg (ix cp1_now_shelves_pieces v1 - v2).toInt64) := by
      unfold f_W_scrap f_X7_scrap f_X7_scrap_J33
      rw [e7, if_pos c1, n_range, if_pos c2]
      simp only [bnd1, bnd4, bnd9, Option.bind_some, mx]
      rw [gd_48 q1 (by clear hR m1 m2 m3; grind), if_neg c3]
      simp only [n_needState, Option.bind_some, mx, if_neg one_ne]
      rw [m1]
      simp only [Option.bind_some]
      rw [gd_48 q1 (by clear hR m1 m2 m3; grind), gd_48 q1 (by clear hR m1 m2 m3; grind), n_set d17 q1 q2]
      simp only [bnd3, Option.bind_some]
      rw [gd_6 (by decide) (by decide), gd_6 (by decide) (by decide)]
      simp only [Option.bind_some]
      rw [gd_1 (by decide) (by decide)]
      rfl
    have e63 : ix (upd (upd (upd (upd cp2_w (63 + v1).toNatClampNeg (ix cp1_now_shelves_pieces v1 - v2)) (15 + v1).toNatClampNeg (if ix cp1_now_shelves_pieces v1 - v2 = 0 then -1 else ix cp1_now_shelves_lot v1)) (111 + v1).toNatClampNeg 5) (12 : Int32).toNatClampNeg (ix cp2_w 12 + v2)) (63 + v1) = (ix cp1_now_shelves_pieces v1 - v2) := by
      unfold ix
      rw [upd_ne (by clear hR m1 m2 m3; grind) (by clear hR m1 m2 m3; grind) (by clear hR m1 m2 m3; grind), upd_ne (by clear hR m1 m2 m3; grind) (by clear hR m1 m2 m3; grind) (by clear hR m1 m2 m3; grind), upd_ne (by clear hR m1 m2 m3; grind) (by clear hR m1 m2 m3; grind) (by clear hR m1 m2 m3; grind), upd_same]
    have e15 : ix (upd (upd (upd (upd cp2_w (63 + v1).toNatClampNeg (ix cp1_now_shelves_pieces v1 - v2)) (15 + v1).toNatClampNeg (if ix cp1_now_shelves_pieces v1 - v2 = 0 then -1 else ix cp1_now_shelves_lot v1)) (111 + v1).toNatClampNeg 5) (12 : Int32).toNatClampNeg (ix cp2_w 12 + v2)) (15 + v1) = (if ix cp1_now_shelves_pieces v1 - v2 = 0 then -1 else ix cp1_now_shelves_lot v1) := by
      unfold ix
      rw [upd_ne (by clear hR m1 m2 m3; grind) (by clear hR m1 m2 m3; grind) (by clear hR m1 m2 m3; grind), upd_ne (by clear hR m1 m2 m3; grind) (by clear hR m1 m2 m3; grind) (by clear hR m1 m2 m3; grind), upd_same]
    have e111 : ix (upd (upd (upd (upd cp2_w (63 + v1).toNatClampNeg (ix cp1_now_shelves_pieces v1 - v2)) (15 + v1).toNatClampNeg (if ix cp1_now_shelves_pieces v1 - v2 = 0 then -1 else ix cp1_now_shelves_lot v1)) (111 + v1).toNatClampNeg 5) (12 : Int32).toNatClampNeg (ix cp2_w 12 + v2)) (111 + v1) = 5 := by
      unfold ix
      rw [upd_ne (by clear hR m1 m2 m3; grind) (by clear hR m1 m2 m3; grind) (by clear hR m1 m2 m3; grind), upd_same]
    have h2 : f_Y8_scrap v1 v2 cp2_raised cp2_undos cp2_eldest cp2_w cp2_kept = some ((ix cp1_now_shelves_pieces v1 - v2), 0, u', e', (upd (upd (upd (upd cp2_w (63 + v1).toNatClampNeg (ix cp1_now_shelves_pieces v1 - v2)) (15 + v1).toNatClampNeg (if ix cp1_now_shelves_pieces v1 - v2 = 0 then -1 else ix cp1_now_shelves_lot v1)) (111 + v1).toNatClampNeg 5) (12 : Int32).toNatClampNeg (ix cp2_w 12 + v2)), k') := by
      unfold f_Y8_scrap f_Y8_scrap_J47
      rw [e8, if_pos c1]
      simp only [bnd1, bnd2, bnd3, Option.bind_some, can_t, if_neg one_ne, n_in, if_pos c2]
      rw [gd_2450 (by clear hR m1 m2 m3; grind) (by clear hR m1 m2 m3; grind), b2', if_neg c3]
      rw [m2]
      simp only [Option.bind_some]
      rw [n_scraps q1 (by clear hR m1 m2 m3; grind), b1, b2]
      simp only [Option.bind_some]
      rw [gd_2450 (by clear hR m1 m2 m3; grind) (by clear hR m1 m2 m3; grind)]
      exact congrArg some (congrArg (fun z => (z, _)) e63)
    have hAG : ∀ A B : Int32, 0 ≤ A → (B ≤ 9 ∨ 159 ≤ A) → AG A B cp2_w (upd (upd (upd (upd cp2_w (63 + v1).toNatClampNeg (ix cp1_now_shelves_pieces v1 - v2)) (15 + v1).toNatClampNeg (if ix cp1_now_shelves_pieces v1 - v2 = 0 then -1 else ix cp1_now_shelves_lot v1)) (111 + v1).toNatClampNeg 5) (12 : Int32).toNatClampNeg (ix cp2_w 12 + v2)) := fun A B hA h => (((AG.rf.up hA (by clear hR m1 m2 m3; grind) (by clear hR m1 m2 m3; grind)).up hA (by clear hR m1 m2 m3; grind) (by clear hR m1 m2 m3; grind)).up hA (by clear hR m1 m2 m3; grind) (by clear hR m1 m2 m3; grind)).up hA (by decide) (by clear hR m1 m2 m3; grind)
    have q3 : QP cp1_now_shelves_places cp1_now_shelves_room cp1_now_lots_count (upd cp1_now_shelves_lot v1.toNatClampNeg (if ix cp1_now_shelves_pieces v1 - v2 = 0 then -1 else ix cp1_now_shelves_lot v1)) (upd cp1_now_shelves_pieces v1.toNatClampNeg (ix cp1_now_shelves_pieces v1 - v2)) (upd cp1_now_shelves_mark v1.toNatClampNeg 5) (upd (upd (upd (upd cp2_w (63 + v1).toNatClampNeg (ix cp1_now_shelves_pieces v1 - v2)) (15 + v1).toNatClampNeg (if ix cp1_now_shelves_pieces v1 - v2 = 0 then -1 else ix cp1_now_shelves_lot v1)) (111 + v1).toNatClampNeg 5) (12 : Int32).toNatClampNeg (ix cp2_w 12 + v2)) := by
      refine QP_set d17 a3 q1 q2 (by clear hR m1 m2 m3; grind) (by clear hR m1 m2 m3; grind) ?_ e15 e63 e111 ?_
      · by_cases hz : ix cp1_now_shelves_pieces v1 - v2 = 0
        · exact Or.inl ⟨hz, if_pos hz⟩
        · rw [if_neg hz]; right; clear hR m1 m2 m3; grind
      · intro n n1 n2 n3
        refine ⟨?_, ?_, ?_⟩
        · unfold ix; rw [upd_ne (by clear hR m1 m2 m3; grind) (by clear hR m1 m2 m3; grind) (by clear hR m1 m2 m3; grind), upd_ne (by clear hR m1 m2 m3; grind) (by clear hR m1 m2 m3; grind) (by clear hR m1 m2 m3; grind), upd_ne (by clear hR m1 m2 m3; grind) (by clear hR m1 m2 m3; grind) (by clear hR m1 m2 m3; grind), upd_ne (by clear hR m1 m2 m3; grind) (by clear hR m1 m2 m3; grind) (by clear hR m1 m2 m3; grind)]
        · unfold ix; rw [upd_ne (by clear hR m1 m2 m3; grind) (by clear hR m1 m2 m3; grind) (by clear hR m1 m2 m3; grind), upd_ne (by clear hR m1 m2 m3; grind) (by clear hR m1 m2 m3; grind) (by clear hR m1 m2 m3; grind), upd_ne (by clear hR m1 m2 m3; grind) (by clear hR m1 m2 m3; grind) (by clear hR m1 m2 m3; grind), upd_ne (by clear hR m1 m2 m3; grind) (by clear hR m1 m2 m3; grind) (by clear hR m1 m2 m3; grind)]
        · unfold ix; rw [upd_ne (by clear hR m1 m2 m3; grind) (by clear hR m1 m2 m3; grind) (by clear hR m1 m2 m3; grind), upd_ne (by clear hR m1 m2 m3; grind) (by clear hR m1 m2 m3; grind) (by clear hR m1 m2 m3; grind), upd_ne (by clear hR m1 m2 m3; grind) (by clear hR m1 m2 m3; grind) (by clear hR m1 m2 m3; grind), upd_ne (by clear hR m1 m2 m3; grind) (by clear hR m1 m2 m3; grind) (by clear hR m1 m2 m3; grind)]
    have b12 : ix cp2_w 12 = cp1_now_books 3 := a2 3 (by decide) (by decide)
    have q2b : QB (upd cp1_now_books (3 : Int32).toNatClampNeg (cp1_now_books 3 + v2)) (upd (upd (upd (upd cp2_w (63 + v1).toNatClampNeg (ix cp1_now_shelves_pieces v1 - v2)) (15 + v1).toNatClampNeg (if ix cp1_now_shelves_pieces v1 - v2 = 0 then -1 else ix cp1_now_shelves_lot v1)) (111 + v1).toNatClampNeg 5) (12 : Int32).toNatClampNeg (ix cp2_w 12 + v2)) := by
      intro n n1 n2
      have u1 : ix (upd cp1_now_books (3 : Int32).toNatClampNeg (cp1_now_books 3 + v2)) n = if n = 3 then cp1_now_books 3 + v2 else ix cp1_now_books n := upd_at (by decide) n1
      have u2 : ix (upd (upd (upd (upd cp2_w (63 + v1).toNatClampNeg (ix cp1_now_shelves_pieces v1 - v2)) (15 + v1).toNatClampNeg (if ix cp1_now_shelves_pieces v1 - v2 = 0 then -1 else ix cp1_now_shelves_lot v1)) (111 + v1).toNatClampNeg 5) (12 : Int32).toNatClampNeg (ix cp2_w 12 + v2)) (9 + n) = if 9 + n = 12 then ix cp2_w 12 + v2 else ix cp2_w (9 + n) := by
        have := upd_at (f := upd (upd (upd cp2_w (63 + v1).toNatClampNeg (ix cp1_now_shelves_pieces v1 - v2)) (15 + v1).toNatClampNeg (if ix cp1_now_shelves_pieces v1 - v2 = 0 then -1 else ix cp1_now_shelves_lot v1)) (111 + v1).toNatClampNeg 5) (i := 12) (j := 9 + n) (v := ix cp2_w 12 + v2) (by decide) (by clear hR m1 m2 m3; grind)
        refine this.trans ?_
        rw [upd_ne (by clear hR m1 m2 m3; grind) (by clear hR m1 m2 m3; grind) (by clear hR m1 m2 m3; grind), upd_ne (by clear hR m1 m2 m3; grind) (by clear hR m1 m2 m3; grind) (by clear hR m1 m2 m3; grind), upd_ne (by clear hR m1 m2 m3; grind) (by clear hR m1 m2 m3; grind) (by clear hR m1 m2 m3; grind)]
      rw [u1, u2]
      by_cases hn : n = 3
      · subst hn; rw [if_pos rfl, if_pos (by decide), b12]
      · rw [if_neg hn, if_neg (by clear hR m1 m2 m3; grind)]; exact a2 n n1 n2
    have q14 : QA cp1_now_shelves_places (upd cp1_now_books (3 : Int32).toNatClampNeg (cp1_now_books 3 + v2)) (upd cp1_now_shelves_pieces v1.toNatClampNeg (ix cp1_now_shelves_pieces v1 - v2)) := by
      obtain ⟨e, g1, g2⟩ := a14
      refine ⟨_, hand_upd d17 q1 q2 g1, ?_⟩
      show (cp1_now_books 0 + cp1_now_books 2 + cp1_now_books 5) - (cp1_now_books 1 + (cp1_now_books 3 + v2) + cp1_now_books 4) = _
      rw [← g2]; clear hR m1 m2 m3; grind
    refine ⟨?wd, ?pd, ?qd⟩
    case pd =>
      rw [fc_18, h1]
      simp only [bnd10, Option.bind_some]
      rw [h2]
      simp only [bnd1, bnd6, Option.bind_some, f_Y8_thrown]
      refine fin_0 ?_
      rfl
    case qd =>
      rw [R_mk]
      refine ⟨?_, hR.2.1, m3, hR.2.2.2⟩
      rw [RS_mk]
      exact ⟨QD_ag (hAG _ _ (by decide) (by decide)) a1, q2b, q3, QK_ag (hAG _ _ (by decide) (by decide)) a4, QL_ag d23 (hAG _ _ (by decide) (by decide)) a5, a6, QO_ag d26 (hAG _ _ (by decide) (by decide)) a7, a8, QH_ag d26 (hAG _ _ (by decide) (by decide)) a9, QG_ag d25 d26 (hAG _ _ (by decide) (by decide)) (hAG _ _ (by decide) (by decide)) a10, a11, QI_ag (hAG _ _ (by decide) (by decide)) a12, QT_ag (hAG _ _ (by decide) (by decide)) a13, q14, a15⟩

