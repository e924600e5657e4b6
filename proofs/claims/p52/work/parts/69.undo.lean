/-! ===== undo ===== -/
theorem ar6 {ns i : Int32} (h0 : 0 ≤ ns) (h1 : ns < 8) (i0 : 0 ≤ i) (i1 : i < 7) : r8 (r8 (ns + 7 - 0) + 7 - i) = r8 (ns + 7 - (i + 1)) := by
  have h : ns = 0 ∨ ns = 1 ∨ ns = 2 ∨ ns = 3 ∨ ns = 4 ∨ ns = 5 ∨ ns = 6 ∨ ns = 7 := by grind
  have k : i = 0 ∨ i = 1 ∨ i = 2 ∨ i = 3 ∨ i = 4 ∨ i = 5 ∨ i = 6 := by grind
  rcases h with rfl | rfl | rfl | rfl | rfl | rfl | rfl | rfl <;> rcases k with rfl | rfl | rfl | rfl | rfl | rfl | rfl <;> decide
theorem un_loop {at9 r u e : Int32} {w kept near : Nat → Int32} (h0 : 0 ≤ at9) (h1 : at9 ≤ 17094) : ∃ w', loop (fun z : Int32 × (Nat → Int32) => f_Y8_undo_L39 at9 r u e kept near z.1 z.2) fu (0, w) = some w' ∧ RE (fun j => kept (at9.toNatClampNeg + j)) w' := by
  refine lp_one (f := fun z : Int32 × (Nat → Int32) => f_Y8_undo_L39 at9 r u e kept near z.1 z.2) (fun s => 0 ≤ s.1 ∧ s.1 ≤ 2442 ∧ ∀ j : Nat, j < s.1.toNatClampNeg → s.2 j = kept (at9.toNatClampNeg + j)) _ (fun z => msr z.1 2442) ?_ fu (0, w) ⟨by dsimp only; decide, by dsimp only; decide, fun j hj => absurd hj (Nat.not_lt_zero _)⟩ (msr_fu (by dsimp only; decide) (by decide))
  rintro ⟨n, k⟩ ⟨g1, g2, g3⟩
  dsimp only at g1 g2 g3 ⊢
  unfold f_Y8_undo_L39
  by_cases hn : 2442 ≤ n
  · right
    have e1 : n = 2442 := by grind
    subst e1
    exact ⟨k, by rw [if_pos hn], g3⟩
  · left
    have hn' : n < 2442 := by grind
    have e2 := tn_add (a := at9) (b := n) h0 g1 (by grind) (by grind)
    have e3 := tn_add (a := n) (b := 1) g1 (by decide) (by grind) (by decide)
    have e4 : (1 : Int32).toNatClampNeg = 1 := rfl
    refine ⟨(n + 1, upd k n.toNatClampNeg (kept (at9 + n).toNatClampNeg)), by rw [if_neg hn, gd_19600 (by grind) (by grind), gd_2450 g1 (by grind)], ⟨by dsimp only; grind, by dsimp only; grind, ?_⟩, msr_lt hn'⟩
    intro j hj
    dsimp only at hj ⊢
    rw [e3, e4] at hj
    unfold upd
    by_cases hjn : j = n.toNatClampNeg
    · rw [if_pos hjn, e2, hjn]
    · rw [if_neg hjn]
      exact g3 j (by omega)

set_option maxRecDepth 4000 in
theorem cs_43 (PL : (Nat → Int32) → (Nat → Int32) → (Nat → Int32) → (Nat → Int64) → (Nat → Int64) → (Nat → Int32) → Prop) (cp1_acts : Int32) (cp1_nextSlot : Int32) (cp1_now_today : Int32) (cp1_now_products : Int32) (cp1_now_itemCount : Int32) (cp1_now_items : Nat → Int32) (cp1_now_books : Nat → Int32) (cp1_now_terms : Nat → Int32) (cp1_now_shelves_lanes : Int32) (cp1_now_shelves_positions : Int32) (cp1_now_shelves_room : Int32) (cp1_now_shelves_gap : Int32) (cp1_now_shelves_places : Int32) (cp1_now_shelves_picked : Int64) (cp1_now_shelves_lot : Nat → Int32) (cp1_now_shelves_pieces : Nat → Int32) (cp1_now_shelves_mark : Nat → Int32) (cp1_now_shelves_byDistance : Nat → Int32) (cp1_now_lots_count : Int32) (cp1_now_lots_product : Nat → Int32) (cp1_now_lots_last : Nat → Int32) (cp1_now_lots_cost : Nat → Int32) (cp1_now_lots_state : Nat → Int32) (cp1_now_lots_byLast : Nat → Int32) (cp1_now_orders_count : Int32) (cp1_now_orders_gifts : Int32) (cp1_now_orders_customer : Nat → Int32) (cp1_now_orders_product : Nat → Int32) (cp1_now_orders_open : Nat → Int32) (cp1_now_orders_due : Nat → Int32) (cp1_now_orders_life : Nat → Int32) (cp1_now_orders_byDue : Nat → Int32) (cp1_now_orders_had : Nat → Int32) (cp1_now_orders_stamps : Nat → Int32) (cp1_hk : Nat) (cp1_st : Nat → StT) (cp1_plan_terms : Nat → Int32) (cp1_plan_low : Nat → Int32) (cp1_plan_high : Nat → Int32) (cp1_plan_bottom : Nat → Int64) (cp1_plan_cost : Nat → Int64) (cp1_plan_act : Nat → Int32) (cp1_picker_deepest : Int32) (cp1_picker_shallowest : Int32) (cp1_picker_widest : Int32) (cp1_picker_least : Nat → Int32) (cp1_picker_next : Nat → Int32) (cp1_rest : Nat → Int32) (cp1_packed : Nat → Int32) (cp2_raised : Int32) (cp2_undos : Int32) (cp2_eldest : Int32) (cp2_w : Nat → Int32) (cp2_kept : Nat → Int32) (cp2_copy : Nat → Int32) (cp2_near : Nat → Int32) (cp2_isDone : Nat → Int32) (cp2_lane : Nat → Int32) (cp2_position : Nat → Int32) (cp2_least : Nat → Int32) (cp2_boxesOf : Nat → Int32) (cp2_staying : Nat → Int64) (cp2_planned : Nat → Int64) (cp2_scale : Nat → Int64) (cp3 : Nat → Int64) (v1 v2 v3 v4 v5 : Int32) (hR : RC PL (cp1_now_today, cp1_now_products, cp1_now_itemCount, cp1_now_items, cp1_now_books, cp1_now_terms, cp1_now_shelves_lanes, cp1_now_shelves_positions, cp1_now_shelves_room, cp1_now_shelves_gap, cp1_now_shelves_places, cp1_now_shelves_picked, cp1_now_shelves_lot, cp1_now_shelves_pieces, cp1_now_shelves_mark, cp1_now_shelves_byDistance, cp1_now_lots_count, cp1_now_lots_product, cp1_now_lots_last, cp1_now_lots_cost, cp1_now_lots_state, cp1_now_lots_byLast, cp1_now_orders_count, cp1_now_orders_gifts, cp1_now_orders_customer, cp1_now_orders_product, cp1_now_orders_open, cp1_now_orders_due, cp1_now_orders_life, cp1_now_orders_byDue, cp1_now_orders_had, cp1_now_orders_stamps) cp2_w cp2_near cp1_acts cp1_nextSlot cp1_hk cp1_st cp2_undos cp2_eldest cp2_kept cp1_plan_terms cp1_plan_low cp1_plan_high cp1_plan_bottom cp1_plan_cost cp1_plan_act) : ∃ z', f_c43 v1 v2 v3 v4 v5 (cp1_acts, cp1_nextSlot, cp1_now_today, cp1_now_products, cp1_now_itemCount, cp1_now_items, cp1_now_books, cp1_now_terms, cp1_now_shelves_lanes, cp1_now_shelves_positions, cp1_now_shelves_room, cp1_now_shelves_gap, cp1_now_shelves_places, cp1_now_shelves_picked, cp1_now_shelves_lot, cp1_now_shelves_pieces, cp1_now_shelves_mark, cp1_now_shelves_byDistance, cp1_now_lots_count, cp1_now_lots_product, cp1_now_lots_last, cp1_now_lots_cost, cp1_now_lots_state, cp1_now_lots_byLast, cp1_now_orders_count, cp1_now_orders_gifts, cp1_now_orders_customer, cp1_now_orders_product, cp1_now_orders_open, cp1_now_orders_due, cp1_now_orders_life, cp1_now_orders_byDue, cp1_now_orders_had, cp1_now_orders_stamps, cp1_hk, cp1_st, cp1_plan_terms, cp1_plan_low, cp1_plan_high, cp1_plan_bottom, cp1_plan_cost, cp1_plan_act, cp1_picker_deepest, cp1_picker_shallowest, cp1_picker_widest, cp1_picker_least, cp1_picker_next, cp1_rest, cp1_packed, cp2_raised, cp2_undos, cp2_eldest, cp2_w, cp2_kept, cp2_copy, cp2_near, cp2_isDone, cp2_lane, cp2_position, cp2_least, cp2_boxesOf, cp2_staying, cp2_planned, cp2_scale, cp3) = some z' ∧ R PL z' := by
  have hS := hR.1
  rw [RS_mk] at hS
  obtain ⟨a1, a2, a3, a4, a5, a6, a7, a8, a9, a10, a11, a12, a13, a14, a15⟩ := hS
  have a0 := a1
  obtain ⟨d0, d1, d2, d3, d4, d5, d6, d7, d8, d9, d10, d11, d12, d13, d14, d15, d16, d17, d18, d19, d20, d21, d22, d23, d24, d25, d26⟩ := a0
  obtain ⟨a', ns', hk', st', u', e', k', m1, m2, m3⟩ := remember_keep hR.1 hR.2.2.1
  have m1 : f_X7_remember cp1_acts cp1_nextSlot cp1_hk cp1_st cp1_now_today cp1_now_products cp1_now_itemCount cp1_now_items cp1_now_books cp1_now_terms cp1_now_shelves_lanes cp1_now_shelves_positions cp1_now_shelves_room cp1_now_shelves_gap cp1_now_shelves_places cp1_now_shelves_picked cp1_now_shelves_lot cp1_now_shelves_pieces cp1_now_shelves_mark cp1_now_shelves_byDistance cp1_now_lots_count cp1_now_lots_product cp1_now_lots_last cp1_now_lots_cost cp1_now_lots_state cp1_now_lots_byLast cp1_now_orders_count cp1_now_orders_gifts cp1_now_orders_customer cp1_now_orders_product cp1_now_orders_open cp1_now_orders_due cp1_now_orders_life cp1_now_orders_byDue cp1_now_orders_had cp1_now_orders_stamps = some (a', ns', hk', st') := m1
  by_cases c1 : cp1_acts ≤ 0
  · skip
    have h1 : f_W_undo cp1_acts cp1_nextSlot cp1_hk cp1_st cp1_now_today cp1_now_products cp1_now_itemCount cp1_now_items cp1_now_books cp1_now_terms cp1_now_shelves_lanes cp1_now_shelves_positions cp1_now_shelves_room cp1_now_shelves_gap cp1_now_shelves_places cp1_now_shelves_picked cp1_now_shelves_lot cp1_now_shelves_pieces cp1_now_shelves_mark cp1_now_shelves_byDistance cp1_now_lots_count cp1_now_lots_product cp1_now_lots_last cp1_now_lots_cost cp1_now_lots_state cp1_now_lots_byLast cp1_now_orders_count cp1_now_orders_gifts cp1_now_orders_customer cp1_now_orders_product cp1_now_orders_open cp1_now_orders_due cp1_now_orders_life cp1_now_orders_byDue cp1_now_orders_had cp1_now_orders_stamps cp3 = some (1, cp1_acts, cp1_nextSlot, cp1_now_today, cp1_now_products, cp1_now_itemCount, cp1_now_items, cp1_now_books, cp1_now_terms, cp1_now_shelves_lanes, cp1_now_shelves_positions, cp1_now_shelves_room, cp1_now_shelves_gap, cp1_now_shelves_places, cp1_now_shelves_picked, cp1_now_shelves_lot, cp1_now_shelves_pieces, cp1_now_shelves_mark, cp1_now_shelves_byDistance, cp1_now_lots_count, cp1_now_lots_product, cp1_now_lots_last, cp1_now_lots_cost, cp1_now_lots_state, cp1_now_lots_byLast, cp1_now_orders_count, cp1_now_orders_gifts, cp1_now_orders_customer, cp1_now_orders_product, cp1_now_orders_open, cp1_now_orders_due, cp1_now_orders_life, cp1_now_orders_byDue, cp1_now_orders_had, cp1_now_orders_stamps, cp3) := by
      unfold f_W_undo f_X7_undo f_X7_undo_J12
      rw [if_pos c1]
      simp only [bnd1, bnd35, n_needState, Option.bind_some, mx, ↓reduceIte]
    have h2 : f_Y8_undo cp2_raised cp2_undos cp2_eldest cp2_w cp2_kept cp2_near = some (0, 1, cp2_undos, cp2_w, cp2_near) := by
      unfold f_Y8_undo f_Y8_undo_J13
      rw [← hR.2.2.1.1, if_pos c1]
      simp only [bnd1, bnd2, Option.bind_some, can_f0, ↓reduceIte]
    refine ⟨?wa, ?pa, ?qa⟩
    case pa =>
      rw [fc_43, h1]
      simp only [bnd36, Option.bind_some]
      rw [h2]
      simp only [bnd1, bnd5, Option.bind_some, f_Y8_thrown]
      exact fin_1 (show ¬ (1 : Int32) = 0 by decide)
    case qa =>
      rw [R_mk]
      exact hR
  obtain ⟨u1, u2, u3, n1, n2, e1, e2, hk1, hst⟩ := hR.2.2.1
  obtain ⟨i1, i2⟩ := hst 0 (by decide) (by grind)
  have j1 : r8 (cp1_nextSlot + 7 - 0) = cp1_nextSlot + 8 - 1 - (cp1_nextSlot + 8 - 1) / 8 * 8 := by
    rw [show cp1_nextSlot + 7 - 0 = cp1_nextSlot + 8 - 1 by grind]; rfl
  have j2 : r8 (cp2_eldest + cp1_acts - 1 - 0) = (cp2_eldest + (cp1_acts - 1)) - (cp2_eldest + (cp1_acts - 1)) / 8 * 8 := by
    rw [show cp2_eldest + cp1_acts - 1 - 0 = cp2_eldest + (cp1_acts - 1) by grind]; rfl
  have j3 := r8_rng (a := cp1_nextSlot + 7 - 0) (by grind) (by grind)
  have j4 := r8_rng (a := cp2_eldest + cp1_acts - 1 - 0) (by grind) (by grind)
  obtain ⟨o1, o2, o3⟩ := tn_2442 j4.1 j4.2
  obtain ⟨v, s1, s2⟩ := copyT_ok (cp1_now_today, cp1_now_products, cp1_now_itemCount, cp1_now_items, cp1_now_books, cp1_now_terms, cp1_now_shelves_lanes, cp1_now_shelves_positions, cp1_now_shelves_room, cp1_now_shelves_gap, cp1_now_shelves_places, cp1_now_shelves_picked, cp1_now_shelves_lot, cp1_now_shelves_pieces, cp1_now_shelves_mark, cp1_now_shelves_byDistance, cp1_now_lots_count, cp1_now_lots_product, cp1_now_lots_last, cp1_now_lots_cost, cp1_now_lots_state, cp1_now_lots_byLast, cp1_now_orders_count, cp1_now_orders_gifts, cp1_now_orders_customer, cp1_now_orders_product, cp1_now_orders_open, cp1_now_orders_due, cp1_now_orders_life, cp1_now_orders_byDue, cp1_now_orders_had, cp1_now_orders_stamps) (cp1_st (r8 (cp1_nextSlot + 7 - 0)).toNatClampNeg)
  obtain ⟨w', t1, t2⟩ := un_loop (at9 := 2442 * r8 (cp2_eldest + cp1_acts - 1 - 0)) (r := 0) (u := cp1_acts - 1) (e := cp2_eldest) (w := cp2_w) (kept := cp2_kept) (near := cp2_near) o2 o3
  rw [o1] at t2
  have hv : RS v w' := RS_re t2 (RS_se s2 i2)
  obtain ⟨y0, y1, y2, y3, y4, y5, y6, y7, y8, y9, y10, y11, y12, y13, y14, y15, y16, y17, y18, y19, y20, y21, y22, y23, y24, y25, y26, y27, y28, y29, y30, y31⟩ := v
  have hv' := hv
  rw [RS_mk] at hv'
  obtain ⟨b1, b2, b3, b4, b5, b6, b7, b8, b9, b10, b11, b12, b13, b14, b15⟩ := hv'
  have b0 := b1
  obtain ⟨f0, f1, f2, f3, f4, f5, f6, f7, f8, f9, f10, f11, f12, f13, f14, f15, f16, f17, f18, f19, f20, f21, f22, f23, f24, f25, f26⟩ := b0
  obtain ⟨near', z1, z2⟩ := b15 w' cp2_near f3 f6 f12
  · skip
    have h1 : f_W_undo cp1_acts cp1_nextSlot cp1_hk cp1_st cp1_now_today cp1_now_products cp1_now_itemCount cp1_now_items cp1_now_books cp1_now_terms cp1_now_shelves_lanes cp1_now_shelves_positions cp1_now_shelves_room cp1_now_shelves_gap cp1_now_shelves_places cp1_now_shelves_picked cp1_now_shelves_lot cp1_now_shelves_pieces cp1_now_shelves_mark cp1_now_shelves_byDistance cp1_now_lots_count cp1_now_lots_product cp1_now_lots_last cp1_now_lots_cost cp1_now_lots_state cp1_now_lots_byLast cp1_now_orders_count cp1_now_orders_gifts cp1_now_orders_customer cp1_now_orders_product cp1_now_orders_open cp1_now_orders_due cp1_now_orders_life cp1_now_orders_byDue cp1_now_orders_had cp1_now_orders_stamps cp3 = some (0, cp1_acts - 1, r8 (cp1_nextSlot + 7 - 0), y0, y1, y2, y3, y4, y5, y6, y7, y8, y9, y10, y11, y12, y13, y14, y15, y16, y17, y18, y19, y20, y21, y22, y23, y24, y25, y26, y27, y28, y29, y30, y31, vp_updL cp3 (0 : Int32).toNatClampNeg (cp1_acts - 1).toInt64) := by
      unfold f_W_undo f_X7_undo f_X7_undo_J12
      rw [if_neg c1, ← j1]
      simp only [bnd1, bnd35, n_needState, Option.bind_some, mx, if_neg one_ne]
      rw [gd_8 j3.1 j3.2, if_pos i1, s1]
      simp only [Option.bind_some]
      rw [gd_1 (by decide) (by decide)]
    have h2 : f_Y8_undo cp2_raised cp2_undos cp2_eldest cp2_w cp2_kept cp2_near = some (cp1_acts - 1, 0, cp1_acts - 1, w', near') := by
      unfold f_Y8_undo f_Y8_undo_J13 f_Y8_keptAt
      rw [← u1, if_neg c1, ← j2]
      simp only [bnd1, bnd2, Option.bind_some, can_t, if_neg one_ne]
      rw [t1]
      simp only [Option.bind_some]
      rw [z1]
      rfl
    refine ⟨?wd, ?pd, ?qd⟩
    case pd =>
      rw [fc_43, h1]
      simp only [bnd36, Option.bind_some]
      rw [h2]
      simp only [bnd1, bnd5, Option.bind_some, f_Y8_thrown]
      refine fin_0 ?_
      rfl
    case qd =>
      rw [R_mk]
      refine ⟨hv, z2, ?_, hR.2.2.2⟩
      refine ⟨rfl, by grind, by grind, j3.1, j3.2, e1, e2, by omega, ?_⟩
      intro i i0 i1'
      obtain ⟨k1, k2⟩ := hst (i + 1) (by grind) (by grind)
      have g1 : r8 (r8 (cp1_nextSlot + 7 - 0) + 7 - i) = r8 (cp1_nextSlot + 7 - (i + 1)) := by
        exact ar6 n1 n2 i0 (by grind)
      have g2 : cp2_eldest + (cp1_acts - 1) - 1 - i = cp2_eldest + cp1_acts - 1 - (i + 1) := by grind
      rw [g1, g2]
      exact ⟨k1, k2⟩

