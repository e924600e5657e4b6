theorem n_keepC {u e : Int32} {k c : Nat → Int32} {x : Int32 × Int32 × (Nat → Int32)} (h : f_Y8_keep u e c k = some x) : f_Y8_keepsFrom_o_copy u e k c = some x := by
  have a : f_Y8_keepsFrom_o_copy u e k c = f_Y8_keepsFrom_o_w u e c k := rfl
  have b : f_Y8_keep u e c k = bnd3 (f_Y8_keepsFrom_o_w u e c k) (fun o3 o4 o5 => some (o3, o4, o5)) := rfl
  rw [b] at h
  rw [a]
  cases y : f_Y8_keepsFrom_o_w u e c k with
  | none => rw [y] at h; exact absurd h (by simp [bnd3])
  | some v => rw [y] at h; exact h

set_option maxRecDepth 4000 in
theorem cs_22 (PL : (Nat → Int32) → (Nat → Int32) → (Nat → Int32) → (Nat → Int64) → (Nat → Int64) → (Nat → Int32) → Prop) (cp1_acts : Int32) (cp1_nextSlot : Int32) (cp1_now_today : Int32) (cp1_now_products : Int32) (cp1_now_itemCount : Int32) (cp1_now_items : Nat → Int32) (cp1_now_books : Nat → Int32) (cp1_now_terms : Nat → Int32) (cp1_now_shelves_lanes : Int32) (cp1_now_shelves_positions : Int32) (cp1_now_shelves_room : Int32) (cp1_now_shelves_gap : Int32) (cp1_now_shelves_places : Int32) (cp1_now_shelves_picked : Int64) (cp1_now_shelves_lot : Nat → Int32) (cp1_now_shelves_pieces : Nat → Int32) (cp1_now_shelves_mark : Nat → Int32) (cp1_now_shelves_byDistance : Nat → Int32) (cp1_now_lots_count : Int32) (cp1_now_lots_product : Nat → Int32) (cp1_now_lots_last : Nat → Int32) (cp1_now_lots_cost : Nat → Int32) (cp1_now_lots_state : Nat → Int32) (cp1_now_lots_byLast : Nat → Int32) (cp1_now_orders_count : Int32) (cp1_now_orders_gifts : Int32) (cp1_now_orders_customer : Nat → Int32) (cp1_now_orders_product : Nat → Int32) (cp1_now_orders_open : Nat → Int32) (cp1_now_orders_due : Nat → Int32) (cp1_now_orders_life : Nat → Int32) (cp1_now_orders_byDue : Nat → Int32) (cp1_now_orders_had : Nat → Int32) (cp1_now_orders_stamps : Nat → Int32) (cp1_hk : Nat) (cp1_st : Nat → StT) (cp1_plan_terms : Nat → Int32) (cp1_plan_low : Nat → Int32) (cp1_plan_high : Nat → Int32) (cp1_plan_bottom : Nat → Int64) (cp1_plan_cost : Nat → Int64) (cp1_plan_act : Nat → Int32) (cp1_picker_deepest : Int32) (cp1_picker_shallowest : Int32) (cp1_picker_widest : Int32) (cp1_picker_least : Nat → Int32) (cp1_picker_next : Nat → Int32) (cp1_rest : Nat → Int32) (cp1_packed : Nat → Int32) (cp2_raised : Int32) (cp2_undos : Int32) (cp2_eldest : Int32) (cp2_w : Nat → Int32) (cp2_kept : Nat → Int32) (cp2_copy : Nat → Int32) (cp2_near : Nat → Int32) (cp2_isDone : Nat → Int32) (cp2_lane : Nat → Int32) (cp2_position : Nat → Int32) (cp2_least : Nat → Int32) (cp2_boxesOf : Nat → Int32) (cp2_staying : Nat → Int64) (cp2_planned : Nat → Int64) (cp2_scale : Nat → Int64) (cp3 : Nat → Int64) (v1 v2 v3 v4 v5 : Int32) (hR : RC PL (cp1_now_today, cp1_now_products, cp1_now_itemCount, cp1_now_items, cp1_now_books, cp1_now_terms, cp1_now_shelves_lanes, cp1_now_shelves_positions, cp1_now_shelves_room, cp1_now_shelves_gap, cp1_now_shelves_places, cp1_now_shelves_picked, cp1_now_shelves_lot, cp1_now_shelves_pieces, cp1_now_shelves_mark, cp1_now_shelves_byDistance, cp1_now_lots_count, cp1_now_lots_product, cp1_now_lots_last, cp1_now_lots_cost, cp1_now_lots_state, cp1_now_lots_byLast, cp1_now_orders_count, cp1_now_orders_gifts, cp1_now_orders_customer, cp1_now_orders_product, cp1_now_orders_open, cp1_now_orders_due, cp1_now_orders_life, cp1_now_orders_byDue, cp1_now_orders_had, cp1_now_orders_stamps) cp2_w cp2_near cp1_acts cp1_nextSlot cp1_hk cp1_st cp2_undos cp2_eldest cp2_kept cp1_plan_terms cp1_plan_low cp1_plan_high cp1_plan_bottom cp1_plan_cost cp1_plan_act) : ∃ z', f_c22 v1 v2 v3 v4 v5 (cp1_acts, cp1_nextSlot, cp1_now_today, cp1_now_products, cp1_now_itemCount, cp1_now_items, cp1_now_books, cp1_now_terms, cp1_now_shelves_lanes, cp1_now_shelves_positions, cp1_now_shelves_room, cp1_now_shelves_gap, cp1_now_shelves_places, cp1_now_shelves_picked, cp1_now_shelves_lot, cp1_now_shelves_pieces, cp1_now_shelves_mark, cp1_now_shelves_byDistance, cp1_now_lots_count, cp1_now_lots_product, cp1_now_lots_last, cp1_now_lots_cost, cp1_now_lots_state, cp1_now_lots_byLast, cp1_now_orders_count, cp1_now_orders_gifts, cp1_now_orders_customer, cp1_now_orders_product, cp1_now_orders_open, cp1_now_orders_due, cp1_now_orders_life, cp1_now_orders_byDue, cp1_now_orders_had, cp1_now_orders_stamps, cp1_hk, cp1_st, cp1_plan_terms, cp1_plan_low, cp1_plan_high, cp1_plan_bottom, cp1_plan_cost, cp1_plan_act, cp1_picker_deepest, cp1_picker_shallowest, cp1_picker_widest, cp1_picker_least, cp1_picker_next, cp1_rest, cp1_packed, cp2_raised, cp2_undos, cp2_eldest, cp2_w, cp2_kept, cp2_copy, cp2_near, cp2_isDone, cp2_lane, cp2_position, cp2_least, cp2_boxesOf, cp2_staying, cp2_planned, cp2_scale, cp3) = some z' ∧ R PL z' := by
  have hS := hR.1
  rw [RS_mk] at hS
  obtain ⟨a1, a2, a3, a4, a5, a6, a7, a8, a9, a10, a11, a12, a13, a14, a15⟩ := hS
  have a0 := a1
  obtain ⟨d0, d1, d2, d3, d4, d5, d6, d7, d8, d9, d10, d11, d12, d13, d14, d15, d16, d17, d18, d19, d20, d21, d22, d23, d24, d25, d26⟩ := a0
  obtain ⟨a', ns', hk', st', u', e', k', m1, m2, m3⟩ := remember_keep hR.1 hR.2.2.1
  have m1 : f_X7_remember cp1_acts cp1_nextSlot cp1_hk cp1_st cp1_now_today cp1_now_products cp1_now_itemCount cp1_now_items cp1_now_books cp1_now_terms cp1_now_shelves_lanes cp1_now_shelves_positions cp1_now_shelves_room cp1_now_shelves_gap cp1_now_shelves_places cp1_now_shelves_picked cp1_now_shelves_lot cp1_now_shelves_pieces cp1_now_shelves_mark cp1_now_shelves_byDistance cp1_now_lots_count cp1_now_lots_product cp1_now_lots_last cp1_now_lots_cost cp1_now_lots_state cp1_now_lots_byLast cp1_now_orders_count cp1_now_orders_gifts cp1_now_orders_customer cp1_now_orders_product cp1_now_orders_open cp1_now_orders_due cp1_now_orders_life cp1_now_orders_byDue cp1_now_orders_had cp1_now_orders_stamps = some (a', ns', hk', st') := m1
  have e7 : f_X7_needOrder v1 cp1_now_orders_count = _ := n_needOrder v1 cp1_now_orders_count d26
  have e8 : f_Y8_isOrder v1 cp2_w = _ := n_isOrder v1 cp2_w (by rw [d24]; exact d25) (by rw [d24]; exact d26)
  rw [d24] at e8
  by_cases c1 : 0 ≤ v1 ∧ v1 < cp1_now_orders_count
  rotate_left
  · skip
    have h1 : f_W_giveBack v1 v2 cp1_acts cp1_nextSlot cp1_hk cp1_st cp1_now_today cp1_now_products cp1_now_itemCount cp1_now_items cp1_now_books cp1_now_terms cp1_now_shelves_lanes cp1_now_shelves_positions cp1_now_shelves_room cp1_now_shelves_gap cp1_now_shelves_places cp1_now_shelves_picked cp1_now_shelves_lot cp1_now_shelves_pieces cp1_now_shelves_mark cp1_now_shelves_byDistance cp1_now_lots_count cp1_now_lots_product cp1_now_lots_last cp1_now_lots_cost cp1_now_lots_state cp1_now_lots_byLast cp1_now_orders_count cp1_now_orders_gifts cp1_now_orders_customer cp1_now_orders_product cp1_now_orders_open cp1_now_orders_due cp1_now_orders_life cp1_now_orders_byDue cp1_now_orders_had cp1_now_orders_stamps cp3 = some (1, cp1_acts, cp1_nextSlot, cp1_hk, cp1_st, cp1_now_books, cp1_now_shelves_lot, cp1_now_shelves_pieces, cp1_now_shelves_mark, cp1_now_orders_had, cp3) := by
      unfold f_W_giveBack f_X7_giveBack
      rw [e7, if_neg c1]
      simp only [bnd1, bnd10, Option.bind_some, mx, ↓reduceIte]
    have h2 : f_Y8_giveBack v1 v2 cp2_raised cp2_undos cp2_eldest cp2_w cp2_kept cp2_copy cp2_near = some (0, 1, cp2_undos, cp2_eldest, cp2_w, cp2_kept, cp2_copy) := by
      unfold f_Y8_giveBack
      rw [e8, if_neg c1]
      simp only [bnd1, bnd2, Option.bind_some, can_f0, ↓reduceIte]
    refine ⟨?wa, ?pa, ?qa⟩
    case pa =>
      rw [fc_22, h1]
      simp only [bnd11, Option.bind_some]
      rw [h2]
      simp only [bnd1, bnd7, Option.bind_some, f_Y8_thrown]
      exact fin_1 (show ¬ (1 : Int32) = 0 by decide)
    case qa =>
      rw [R_mk]
      exact hR
  by_cases c2 : 1 ≤ v2 ∧ v2 ≤ 50
  rotate_left
  · skip
    have h1 : f_W_giveBack v1 v2 cp1_acts cp1_nextSlot cp1_hk cp1_st cp1_now_today cp1_now_products cp1_now_itemCount cp1_now_items cp1_now_books cp1_now_terms cp1_now_shelves_lanes cp1_now_shelves_positions cp1_now_shelves_room cp1_now_shelves_gap cp1_now_shelves_places cp1_now_shelves_picked cp1_now_shelves_lot cp1_now_shelves_pieces cp1_now_shelves_mark cp1_now_shelves_byDistance cp1_now_lots_count cp1_now_lots_product cp1_now_lots_last cp1_now_lots_cost cp1_now_lots_state cp1_now_lots_byLast cp1_now_orders_count cp1_now_orders_gifts cp1_now_orders_customer cp1_now_orders_product cp1_now_orders_open cp1_now_orders_due cp1_now_orders_life cp1_now_orders_byDue cp1_now_orders_had cp1_now_orders_stamps cp3 = some (2, cp1_acts, cp1_nextSlot, cp1_hk, cp1_st, cp1_now_books, cp1_now_shelves_lot, cp1_now_shelves_pieces, cp1_now_shelves_mark, cp1_now_orders_had, cp3) := by
      unfold f_W_giveBack f_X7_giveBack
      rw [e7, if_pos c1, n_range, if_neg c2]
      simp only [bnd1, bnd10, Option.bind_some, mx, ↓reduceIte, String.reduceEq]
    have h2 : f_Y8_giveBack v1 v2 cp2_raised cp2_undos cp2_eldest cp2_w cp2_kept cp2_copy cp2_near = some (0, 2, cp2_undos, cp2_eldest, cp2_w, cp2_kept, cp2_copy) := by
      unfold f_Y8_giveBack
      rw [e8, if_pos c1]
      simp only [bnd1, bnd2, Option.bind_some, can_t, if_neg one_ne, n_in, if_neg c2, can_f0, ↓reduceIte]
    refine ⟨?wb, ?pb, ?qb⟩
    case pb =>
      rw [fc_22, h1]
      simp only [bnd11, Option.bind_some]
      rw [h2]
      simp only [bnd1, bnd7, Option.bind_some, f_Y8_thrown]
      exact fin_1 (show ¬ (2 : Int32) = 0 by decide)
    case qb =>
      rw [R_mk]
      exact hR
  obtain ⟨e, e1, e2⟩ := s_hasAll d21 d22 d23 d26 a9 c1.1 c1.2
  have e3 : e = hsm cp1_now_orders_had v1 := by
    rw [n_piecesAt d26 c1.1 c1.2] at e1
    exact (Option.some.inj e1).symm
  by_cases c3 : e < v2
  · skip
    have h1 : f_W_giveBack v1 v2 cp1_acts cp1_nextSlot cp1_hk cp1_st cp1_now_today cp1_now_products cp1_now_itemCount cp1_now_items cp1_now_books cp1_now_terms cp1_now_shelves_lanes cp1_now_shelves_positions cp1_now_shelves_room cp1_now_shelves_gap cp1_now_shelves_places cp1_now_shelves_picked cp1_now_shelves_lot cp1_now_shelves_pieces cp1_now_shelves_mark cp1_now_shelves_byDistance cp1_now_lots_count cp1_now_lots_product cp1_now_lots_last cp1_now_lots_cost cp1_now_lots_state cp1_now_lots_byLast cp1_now_orders_count cp1_now_orders_gifts cp1_now_orders_customer cp1_now_orders_product cp1_now_orders_open cp1_now_orders_due cp1_now_orders_life cp1_now_orders_byDue cp1_now_orders_had cp1_now_orders_stamps cp3 = some (3, cp1_acts, cp1_nextSlot, cp1_hk, cp1_st, cp1_now_books, cp1_now_shelves_lot, cp1_now_shelves_pieces, cp1_now_shelves_mark, cp1_now_orders_had, cp3) := by
      unfold f_W_giveBack f_X7_giveBack
      rw [e7, if_pos c1, n_range, if_pos c2]
      simp only [bnd1, bnd10, Option.bind_some, mx]
      rw [e1]
      simp only [Option.bind_some, if_pos c3]
      unfold f_X7_giveBack_J32
      simp only [bnd1, n_needState, Option.bind_some, mx, ↓reduceIte, String.reduceEq]
    have h2 : f_Y8_giveBack v1 v2 cp2_raised cp2_undos cp2_eldest cp2_w cp2_kept cp2_copy cp2_near = some (0, 3, cp2_undos, cp2_eldest, cp2_w, cp2_kept, cp2_copy) := by
      unfold f_Y8_giveBack
      rw [e8, if_pos c1]
      simp only [bnd1, bnd2, Option.bind_some, can_t, if_neg one_ne, n_in, if_pos c2]
      rw [e2]
      simp only [Option.bind_some, if_pos c3]
      unfold f_Y8_giveBack_J43
      simp only [bnd2, Option.bind_some, can_f0, ↓reduceIte]
    refine ⟨?wc, ?pc, ?qc⟩
    case pc =>
      rw [fc_22, h1]
      simp only [bnd11, Option.bind_some]
      rw [h2]
      simp only [bnd1, bnd7, Option.bind_some, f_Y8_thrown]
      exact fin_1 (show ¬ (3 : Int32) = 0 by decide)
    case qc =>
      rw [R_mk]
      exact hR
  obtain ⟨cc, cc1, cc2⟩ := cp_loop (w := cp2_w) (copy := cp2_copy)
  obtain ⟨a', ns', hk', st', u', e', kp', m1, m2, m3⟩ := remember_keep (RS_re cc2 hR.1) hR.2.2.1
  have m1 : f_X7_remember cp1_acts cp1_nextSlot cp1_hk cp1_st cp1_now_today cp1_now_products cp1_now_itemCount cp1_now_items cp1_now_books cp1_now_terms cp1_now_shelves_lanes cp1_now_shelves_positions cp1_now_shelves_room cp1_now_shelves_gap cp1_now_shelves_places cp1_now_shelves_picked cp1_now_shelves_lot cp1_now_shelves_pieces cp1_now_shelves_mark cp1_now_shelves_byDistance cp1_now_lots_count cp1_now_lots_product cp1_now_lots_last cp1_now_lots_cost cp1_now_lots_state cp1_now_lots_byLast cp1_now_orders_count cp1_now_orders_gifts cp1_now_orders_customer cp1_now_orders_product cp1_now_orders_open cp1_now_orders_due cp1_now_orders_life cp1_now_orders_byDue cp1_now_orders_had cp1_now_orders_stamps = some (a', ns', hk', st') := m1
  have m2 := n_keepC m2
  have hw : cp2_w 1 * cp2_w 2 = cp1_now_shelves_places := by rw [d3, d6, d15]
  have gf : cp1_now_orders_gifts ≤ 2000 := by
    have := QS_gif a11 d25 d26 a7
    rw [i_le, show (2000 : Int32).toInt = 2000 from rfl]; exact this
  obtain ⟨need, scr, l', p', k', h', m, w', s1, s2, s3, s4, s5, s6, s7, s8, s9, s10, s11, s12, s13, s14⟩ := s_back (o := v1) (q := v2) (pmk := cp1_now_shelves_mark) (cp2_w (12 : Int32).toNatClampNeg) 0 cp2_undos cp2_eldest cp2_kept cc d16 d17 d10 d11 hw d9 d0 d21 d22 d23 c1.1 c1.2 d26 c2.1 c2.2 a3 a5 hR.2.1 a10 gf a9 (by rw [← e3]; exact Int32.not_lt.mp c3)
  have p0 : 0 ≤ cp1_now_shelves_places := Int32.le_trans (by decide) d16
  have f1 := frs_sum (ppc := cp1_now_shelves_pieces) p0 d17
  by_cases c4 : frs cp1_now_shelves_places cp1_now_shelves_pieces < need
  · skip
    have mz : ¬ m = 0 := fun z => Int32.not_le.mpr c4 (s4.mp z)
    obtain ⟨w2, w21, w22⟩ := rt_loop (w := w') (copy := cc)
    have h1 : f_W_giveBack v1 v2 cp1_acts cp1_nextSlot cp1_hk cp1_st cp1_now_today cp1_now_products cp1_now_itemCount cp1_now_items cp1_now_books cp1_now_terms cp1_now_shelves_lanes cp1_now_shelves_positions cp1_now_shelves_room cp1_now_shelves_gap cp1_now_shelves_places cp1_now_shelves_picked cp1_now_shelves_lot cp1_now_shelves_pieces cp1_now_shelves_mark cp1_now_shelves_byDistance cp1_now_lots_count cp1_now_lots_product cp1_now_lots_last cp1_now_lots_cost cp1_now_lots_state cp1_now_lots_byLast cp1_now_orders_count cp1_now_orders_gifts cp1_now_orders_customer cp1_now_orders_product cp1_now_orders_open cp1_now_orders_due cp1_now_orders_life cp1_now_orders_byDue cp1_now_orders_had cp1_now_orders_stamps cp3 = some (3, cp1_acts, cp1_nextSlot, cp1_hk, cp1_st, cp1_now_books, cp1_now_shelves_lot, cp1_now_shelves_pieces, cp1_now_shelves_mark, cp1_now_orders_had, cp3) := by
      unfold f_W_giveBack f_X7_giveBack
      rw [e7, if_pos c1, n_range, if_pos c2]
      simp only [bnd1, bnd10, Option.bind_some, mx]
      rw [e1]
      simp only [Option.bind_some, if_neg c3]
      unfold f_X7_giveBack_J32
      simp only [bnd1, n_needState, Option.bind_some, mx, if_neg one_ne]
      rw [s1, f1]
      simp only [Option.bind_some, if_pos c4]
      unfold f_X7_giveBack_J59
      simp only [bnd1, n_needState, Option.bind_some, mx, ↓reduceIte, String.reduceEq]
    have h2 : f_Y8_giveBack v1 v2 cp2_raised cp2_undos cp2_eldest cp2_w cp2_kept cp2_copy cp2_near = some (0, 3, cp2_undos, cp2_eldest, w2, cp2_kept, cc) := by
      unfold f_Y8_giveBack
      rw [e8, if_pos c1]
      simp only [bnd1, bnd2, Option.bind_some, can_t, if_neg one_ne, n_in, if_pos c2]
      rw [e2]
      simp only [Option.bind_some, if_neg c3]
      unfold f_Y8_giveBack_J43
      simp only [bnd1, bnd2, Option.bind_some, can_t, if_neg one_ne]
      rw [cc1]
      simp only [Option.bind_some]
      rw [gd_2450 (by decide) (by decide), s3]
      simp only [Option.bind_some]
      rw [gd_2450 (by decide) (by decide), if_neg mz]
      unfold f_Y8_giveBack_J174
      simp only [bnd1, bnd2, Option.bind_some, can_f0, ↓reduceIte]
      rw [w21]
      rfl
    refine ⟨?wg, ?pg, ?qg⟩
    case pg =>
      rw [fc_22, h1]
      simp only [bnd11, Option.bind_some]
      rw [h2]
      simp only [bnd1, bnd7, Option.bind_some, f_Y8_thrown]
      exact fin_1 (show ¬ (3 : Int32) = 0 by decide)
    case qg =>
      rw [R_mk]
      exact ⟨RS_re (fun j hj => (w22 j hj).trans (cc2 j hj)) hR.1, hR.2⟩
  have mz : m = 0 := s4.mpr (Int32.not_lt.mp c4)
  obtain ⟨hd, g1, g2⟩ := a14
  have g3 : hd = isum (ix cp1_now_shelves_pieces) cp1_now_shelves_places.toNatClampNeg := by
    rw [hand_sum p0 d17] at g1; exact (Option.some.inj g1).symm
  rw [mz, Int32.sub_zero] at s14
  rw [mz] at s3
  have b12 : cp2_w 12 = cp1_now_books 3 := a2 3 (by decide) (by decide)
  have b11 : cp2_w 11 = cp1_now_books 2 := a2 2 (by decide) (by decide)
  have sub12 : w' 12 - cp2_w 12 = scr := by rw [s13, Int32.add_comm, Int32.add_sub_cancel]
  · skip
    have h1 : f_W_giveBack v1 v2 cp1_acts cp1_nextSlot cp1_hk cp1_st cp1_now_today cp1_now_products cp1_now_itemCount cp1_now_items cp1_now_books cp1_now_terms cp1_now_shelves_lanes cp1_now_shelves_positions cp1_now_shelves_room cp1_now_shelves_gap cp1_now_shelves_places cp1_now_shelves_picked cp1_now_shelves_lot cp1_now_shelves_pieces cp1_now_shelves_mark cp1_now_shelves_byDistance cp1_now_lots_count cp1_now_lots_product cp1_now_lots_last cp1_now_lots_cost cp1_now_lots_state cp1_now_lots_byLast cp1_now_orders_count cp1_now_orders_gifts cp1_now_orders_customer cp1_now_orders_product cp1_now_orders_open cp1_now_orders_due cp1_now_orders_life cp1_now_orders_byDue cp1_now_orders_had cp1_now_orders_stamps cp3 = some (0, a', ns', hk', st', (upd (upd cp1_now_books (2 : Int32).toNatClampNeg (cp1_now_books 2 + v2)) (3 : Int32).toNatClampNeg (cp1_now_books 3 + scr)), l', p', k', h', vp_updL cp3 (0 : Int32).toNatClampNeg scr.toInt64) := by
      unfold f_W_giveBack f_X7_giveBack
      rw [e7, if_pos c1, n_range, if_pos c2]
      simp only [bnd1, bnd10, Option.bind_some, mx]
      rw [e1]
      simp only [Option.bind_some, if_neg c3]
      unfold f_X7_giveBack_J32
      simp only [bnd1, n_needState, Option.bind_some, mx, if_neg one_ne]
      rw [s1, f1]
      simp only [Option.bind_some, if_neg c4]
      unfold f_X7_giveBack_J59
      simp only [bnd1, bnd4, bnd5, n_needState, Option.bind_some, mx, if_neg one_ne]
      rw [m1]
      simp only [Option.bind_some]
      rw [s2]
      simp only [Option.bind_some]
      rw [gd_6 (by decide) (by decide), gd_6 (by decide) (by decide), gd_6 (by decide) (by decide), gd_6 (by decide) (by decide)]
      simp only [Option.bind_some]
      rw [gd_1 (by decide) (by decide)]
      rfl
    have h2 : f_Y8_giveBack v1 v2 cp2_raised cp2_undos cp2_eldest cp2_w cp2_kept cp2_copy cp2_near = some (scr, 0, u', e', w', kp', cc) := by
      unfold f_Y8_giveBack
      rw [e8, if_pos c1]
      simp only [bnd1, bnd2, Option.bind_some, can_t, if_neg one_ne, n_in, if_pos c2]
      rw [e2]
      simp only [Option.bind_some, if_neg c3]
      unfold f_Y8_giveBack_J43
      simp only [bnd1, bnd2, Option.bind_some, can_t, if_neg one_ne]
      rw [cc1]
      simp only [Option.bind_some]
      rw [gd_2450 (by decide) (by decide), s3]
      simp only [Option.bind_some]
      rw [gd_2450 (by decide) (by decide)]
      simp only [↓reduceIte]
      unfold f_Y8_giveBack_J174
      simp only [bnd1, bnd2, bnd3, Option.bind_some, can_t, if_neg one_ne]
      rw [m2]
      simp only [Option.bind_some]
      rw [show w' (12 : Int32).toNatClampNeg - cp2_w (12 : Int32).toNatClampNeg = scr from sub12]
    have o40 := bk_lt v1 c1.2 d26
    obtain ⟨-, -, -, -, i5, i6, -⟩ := bk_ix c1.1 o40 (show (0 : Int32) ≤ 0 by decide) (show (0 : Int32) < 24 by decide)
    have hAG : ∀ A B : Int32, 0 ≤ A → ((B ≤ 11) ∨ (13 ≤ A ∧ B ≤ 15) ∨ (159 ≤ A ∧ B ≤ 503) ∨ (1463 ≤ A ∧ B ≤ 2450)) → AG A B cp2_w w' := fun A B hA h => by
      rcases h with h | ⟨h, k⟩ | ⟨h, k⟩ | ⟨h, k⟩
      · exact s8.sub hA h
      · exact s9.sub h k
      · exact s10.sub h (Int32.le_trans k i5)
      · exact s11.sub (Int32.le_trans i6 h) k
    have q2b : QB (upd (upd cp1_now_books (2 : Int32).toNatClampNeg (cp1_now_books 2 + v2)) (3 : Int32).toNatClampNeg (cp1_now_books 3 + scr)) w' := by
      intro n n1 n2
      by_cases hn : n = 2
      · subst hn
        show w' 11 = cp1_now_books 2 + v2
        rw [s12, b11]
      · by_cases hn3 : n = 3
        · subst hn3
          show w' 12 = cp1_now_books 3 + scr
          rw [s13, b12]
        · have y : AG 9 11 cp2_w w' := hAG 9 11 (by decide) (Or.inl (by decide))
          have y2 : AG 13 15 cp2_w w' := s9
          have u1 : ix (upd (upd cp1_now_books (2 : Int32).toNatClampNeg (cp1_now_books 2 + v2)) (3 : Int32).toNatClampNeg (cp1_now_books 3 + scr)) n = ix cp1_now_books n := by
            show upd (upd cp1_now_books (2 : Int32).toNatClampNeg _) (3 : Int32).toNatClampNeg _ n.toNatClampNeg = _
            rw [upd_ne (by decide) n1 hn3, upd_ne (by decide) n1 hn]
          rw [u1, ← a2 n n1 n2]
          clear s1 s2 s3 s5 s6 s7 hR m1 m2 m3 a1 a2 a3 a4 a5 a6 a7 a8 a9 a10 h1 h2
          by_cases n3 : n < 2
          · exact y _ (by grind) (by grind)
          · exact y2 _ (by grind) (by grind)
    have q14 : QA cp1_now_shelves_places (upd (upd cp1_now_books (2 : Int32).toNatClampNeg (cp1_now_books 2 + v2)) (3 : Int32).toNatClampNeg (cp1_now_books 3 + scr)) p' := by
      refine ⟨hd + (v2 - scr), ?_, ?_⟩
      · rw [hand_sum p0 d17, s14, g3]
      · show (cp1_now_books 0 + (cp1_now_books 2 + v2) + cp1_now_books 5) - (cp1_now_books 1 + (cp1_now_books 3 + scr) + cp1_now_books 4) = hd + (v2 - scr)
        rw [← g2]; clear s1 s2 s3 s5 s6 s7 hR m1 m2 m3 a1 a2 a3 a4 a5 a6 a7 a8 a9 a10 h1 h2 hAG q2b; grind
    have q10 : QG cp1_now_orders_count cp1_now_orders_gifts h' cp1_now_orders_stamps w' := QG_back (lcn := cp1_now_lots_count) d25 d26 c1.1 c1.2 a10 s7 s8 s11
    refine ⟨?wf, ?pf, ?qf⟩
    case pf =>
      rw [fc_22, h1]
      simp only [bnd11, Option.bind_some]
      rw [h2]
      simp only [bnd1, bnd7, Option.bind_some, f_Y8_thrown]
      refine fin_0 ?_
      rfl
    case qf =>
      rw [R_mk]
      refine ⟨?_, hR.2.1, m3, hR.2.2.2⟩
      rw [RS_mk]
      exact ⟨QD_ag (hAG _ _ (by decide) (by decide)) a1, q2b, s5, QK_ag (hAG _ _ (by decide) (by decide)) a4, QL_ag d23 (hAG _ _ (by decide) (by decide)) a5, a6, QO_ag d26 (hAG _ _ (by decide) (by decide)) a7, a8, s6, q10, QS_le d26 a11 s7, QI_ag (hAG _ _ (by decide) (by decide)) a12, QT_ag (hAG _ _ (by decide) (by decide)) a13, q14, a15⟩

