theorem SCR.wd {plc rom lcn h : Int32} {plot ppc pmk w w' : Nat → Int32} {P : Int32 → Prop} (q : SCR plc rom lcn h plot ppc pmk w P w') (hw : w 1 * w 2 = plc) : w' 1 * w' 2 = plc := by
  obtain ⟨b1, b2, b3, q1, q2, q3, q4, q5, q6⟩ := q
  have e1 : w' 1 = w 1 := q4 1 (by decide) (by decide)
  have e2 : w' 2 = w 2 := q4 2 (by decide) (by decide)
  rw [e1, e2]; exact hw
theorem SCR.at {plc rom lcn h n : Int32} {plot ppc pmk w w' : Nat → Int32} {P : Int32 → Prop} (q : SCR plc rom lcn h plot ppc pmk w P w') (h0 : QP plc rom lcn plot ppc pmk w) (h1 : 0 ≤ n) (h2 : n < plc) (hp : ¬ P n) : ix w' (15 + n) = ix plot n ∧ ix w' (63 + n) = ix ppc n := by
  obtain ⟨b1, b2, b3, q1, q2, q3, q4, q5, q6⟩ := q
  obtain ⟨y1, y2, y3, y4⟩ := q1 n h1 h2
  rcases q2 n h1 h2 with ⟨z, -⟩ | ⟨-, z1, z2, z3⟩
  · exact absurd z hp
  · exact ⟨y1.trans z1, y2.trans z2⟩
theorem SCR.rf {plc rom lcn h : Int32} {plot ppc pmk w : Nat → Int32} {P : Int32 → Prop} (q : QP plc rom lcn plot ppc pmk w) (hh : f_X5_piecesOnHand plc ppc = some h) (hp : ∀ n : Int32, 0 ≤ n → n < plc → ¬ P n) : SCR plc rom lcn h plot ppc pmk w P w := by
  refine ⟨plot, ppc, pmk, q, CLR.no hp, ?_, AG.rf, AG.rf, AG.rf⟩
  rw [Int32.sub_self, Int32.sub_zero]; exact hh
theorem scr_0 {w : Nat → Int32} {p : Int32} (h1 : 0 ≤ p) (h2 : p < 48) : scr w p 0 = w 0 := by
  show scr w p (0 : Int32).toNatClampNeg = w (0 : Int32).toNatClampNeg
  unfold scr
  rw [upd_ne (by decide) (by decide) (by decide), upd_ne (by grind) (by decide) (by grind), upd_ne (by grind) (by decide) (by grind), upd_ne (by grind) (by decide) (by grind)]
theorem s_recall {plc rom lcn h l x y1 y2 y3 : Int32} {y4 : Nat → Int32} {plot ppc pmk w : Nat → Int32} (h1 : 1 ≤ plc) (h2 : plc ≤ 48) (hr : 1 ≤ rom) (hw : w 1 * w 2 = plc) (hP : QP plc rom lcn plot ppc pmk w) (hh : f_X5_piecesOnHand plc ppc = some h) (hl : 0 ≤ l) :
    ∃ w', loop (fun z : Int32 × (Nat → Int32) => f_Y8_recall_L65 l x y1 y2 y3 y4 z.1 z.2) fu (0, w) = some w' ∧ SCR plc rom lcn h plot ppc pmk w (fun m => 1 ≤ ix ppc m ∧ ix plot m = l) w' ∧ w' 0 = w 0 := by
  refine lp_one (f := fun z : Int32 × (Nat → Int32) => f_Y8_recall_L65 l x y1 y2 y3 y4 z.1 z.2) (fun z => 0 ≤ z.1 ∧ z.1 ≤ plc ∧ SCR plc rom lcn h plot ppc pmk w (fun m => m < z.1 ∧ 1 ≤ ix ppc m ∧ ix plot m = l) z.2 ∧ z.2 0 = w 0) _ (fun z => msr z.1 plc) ?_ fu (0, w) ⟨by dsimp only; decide, by dsimp only; grind, SCR.rf hP hh (fun n a b z => by dsimp only at z; grind), rfl⟩ (msr_fu (by dsimp only; decide) (by grind))
  rintro ⟨n, w'⟩ ⟨g1, g2, g3, g5⟩
  dsimp only at g1 g2 g3 g5 ⊢
  unfold f_Y8_recall_L65
  rw [n_places, g3.wd hw]
  simp only [bnd1, Option.bind_some]
  by_cases hn : plc ≤ n
  · refine Or.inr ⟨w', by rw [if_pos hn], ?_⟩
    exact ⟨g3.eqv (fun m m1 m2 => ⟨fun z => z.2, fun z => ⟨by grind, z⟩⟩), g5⟩
  · left
    have hn' : n < plc := by grind
    obtain ⟨s1, s2⟩ := g3.at hP g1 hn' (fun z => absurd z.1 (by grind))
    have s1' : w' (15 + n).toNatClampNeg = ix plot n := s1
    obtain ⟨y1, y2, y3, y4, y5, y6⟩ := hP n g1 hn'
    rw [if_neg hn, gd_2450 (by grind) (by grind), s1']
    by_cases hc : ix plot n = l
    · refine ⟨(n + 1, scr w' n), ?_, ⟨?_, ?_, ?_, (scr_0 g1 (by grind)).trans g5⟩, msr_lt hn'⟩
      · rw [if_pos hc, gd_2450 (by grind) (by grind), n_scr g1 (by grind)]; rfl
      · dsimp only; grind
      · dsimp only; grind
      · refine g3.step h2 hr g1 hn' (fun m m1 m2 => ?_)
        dsimp only
        constructor
        · rintro ⟨z1, z2⟩
          by_cases hm : m = n
          · exact Or.inr hm
          · exact Or.inl ⟨by grind, z2⟩
        · rintro (⟨z1, z2⟩ | z)
          · exact ⟨by grind, z2⟩
          · subst z; exact ⟨by grind, by grind, hc⟩
    · refine ⟨(n + 1, w'), ?_, ⟨?_, ?_, ?_, g5⟩, msr_lt hn'⟩
      · rw [if_neg hc]; rfl
      · dsimp only; grind
      · dsimp only; grind
      · refine g3.eqv (fun m m1 m2 => ?_)
        dsimp only
        constructor
        · rintro ⟨z1, z2⟩; exact ⟨by grind, z2⟩
        · rintro ⟨z1, z2⟩
          by_cases hm : m = n
          · subst hm; exact absurd z2.2 hc
          · exact ⟨by grind, z2⟩
/-- both sides' places after the same places went -/
theorem SCR.fin {plc rom lcn h e : Int32} {plot ppc pmk w w' l1 p1 m1 : Nat → Int32} {P : Int32 → Prop} (q : SCR plc rom lcn h plot ppc pmk w P w') (h0 : 0 ≤ plc) (hc : plc ≤ 48) (r : CLR plc P plot ppc pmk l1 p1 m1) (hr : f_X5_piecesOnHand plc p1 = some (h - e)) : QP plc rom lcn l1 p1 m1 w' ∧ ix w' 12 = ix w 12 + e ∧ AG 1 12 w w' ∧ AG 13 15 w w' ∧ AG 159 2450 w w' := by
  obtain ⟨b1, b2, b3, q1, q2, q3, q4, q5, q6⟩ := q
  have u := q2.uniq r
  refine ⟨QP_eq q1 u, ?_, q4, q5, q6⟩
  have := hand_eq h0 hc (fun n a b => (u n a b).2.1) q3
  rw [hr] at this
  have := Option.some.inj this
  grind
theorem QP_lot {plc rom lcn lcn' : Int32} {plot ppc pmk w : Nat → Int32} (q : QP plc rom lcn plot ppc pmk w) (h : lcn ≤ lcn') : QP plc rom lcn' plot ppc pmk w := by
  intro n a b
  obtain ⟨y1, y2, y3, y4, y5, y6⟩ := q n a b
  refine ⟨y1, y2, y3, y4, y5, ?_⟩
  rcases y6 with z | ⟨z1, z2, z3⟩
  · exact Or.inl z
  · exact Or.inr ⟨z1, z2, by grind⟩

set_option maxRecDepth 4000 in
theorem cs_8 (PL : (Nat → Int32) → (Nat → Int32) → (Nat → Int32) → (Nat → Int64) → (Nat → Int64) → (Nat → Int32) → Prop) (cp1_acts : Int32) (cp1_nextSlot : Int32) (cp1_now_today : Int32) (cp1_now_products : Int32) (cp1_now_itemCount : Int32) (cp1_now_items : Nat → Int32) (cp1_now_books : Nat → Int32) (cp1_now_terms : Nat → Int32) (cp1_now_shelves_lanes : Int32) (cp1_now_shelves_positions : Int32) (cp1_now_shelves_room : Int32) (cp1_now_shelves_gap : Int32) (cp1_now_shelves_places : Int32) (cp1_now_shelves_picked : Int64) (cp1_now_shelves_lot : Nat → Int32) (cp1_now_shelves_pieces : Nat → Int32) (cp1_now_shelves_mark : Nat → Int32) (cp1_now_shelves_byDistance : Nat → Int32) (cp1_now_lots_count : Int32) (cp1_now_lots_product : Nat → Int32) (cp1_now_lots_last : Nat → Int32) (cp1_now_lots_cost : Nat → Int32) (cp1_now_lots_state : Nat → Int32) (cp1_now_lots_byLast : Nat → Int32) (cp1_now_orders_count : Int32) (cp1_now_orders_gifts : Int32) (cp1_now_orders_customer : Nat → Int32) (cp1_now_orders_product : Nat → Int32) (cp1_now_orders_open : Nat → Int32) (cp1_now_orders_due : Nat → Int32) (cp1_now_orders_life : Nat → Int32) (cp1_now_orders_byDue : Nat → Int32) (cp1_now_orders_had : Nat → Int32) (cp1_now_orders_stamps : Nat → Int32) (cp1_hk : Nat) (cp1_st : Nat → StT) (cp1_plan_terms : Nat → Int32) (cp1_plan_low : Nat → Int32) (cp1_plan_high : Nat → Int32) (cp1_plan_bottom : Nat → Int64) (cp1_plan_cost : Nat → Int64) (cp1_plan_act : Nat → Int32) (cp1_picker_deepest : Int32) (cp1_picker_shallowest : Int32) (cp1_picker_widest : Int32) (cp1_picker_least : Nat → Int32) (cp1_picker_next : Nat → Int32) (cp1_rest : Nat → Int32) (cp1_packed : Nat → Int32) (cp2_raised : Int32) (cp2_undos : Int32) (cp2_eldest : Int32) (cp2_w : Nat → Int32) (cp2_kept : Nat → Int32) (cp2_copy : Nat → Int32) (cp2_near : Nat → Int32) (cp2_isDone : Nat → Int32) (cp2_lane : Nat → Int32) (cp2_position : Nat → Int32) (cp2_least : Nat → Int32) (cp2_boxesOf : Nat → Int32) (cp2_staying : Nat → Int64) (cp2_planned : Nat → Int64) (cp2_scale : Nat → Int64) (cp3 : Nat → Int64) (v1 v2 v3 v4 v5 : Int32) (hR : RC PL (cp1_now_today, cp1_now_products, cp1_now_itemCount, cp1_now_items, cp1_now_books, cp1_now_terms, cp1_now_shelves_lanes, cp1_now_shelves_positions, cp1_now_shelves_room, cp1_now_shelves_gap, cp1_now_shelves_places, cp1_now_shelves_picked, cp1_now_shelves_lot, cp1_now_shelves_pieces, cp1_now_shelves_mark, cp1_now_shelves_byDistance, cp1_now_lots_count, cp1_now_lots_product, cp1_now_lots_last, cp1_now_lots_cost, cp1_now_lots_state, cp1_now_lots_byLast, cp1_now_orders_count, cp1_now_orders_gifts, cp1_now_orders_customer, cp1_now_orders_product, cp1_now_orders_open, cp1_now_orders_due, cp1_now_orders_life, cp1_now_orders_byDue, cp1_now_orders_had, cp1_now_orders_stamps) cp2_w cp2_near cp1_acts cp1_nextSlot cp1_hk cp1_st cp2_undos cp2_eldest cp2_kept cp1_plan_terms cp1_plan_low cp1_plan_high cp1_plan_bottom cp1_plan_cost cp1_plan_act) : ∃ z', f_c8 v1 v2 v3 v4 v5 (cp1_acts, cp1_nextSlot, cp1_now_today, cp1_now_products, cp1_now_itemCount, cp1_now_items, cp1_now_books, cp1_now_terms, cp1_now_shelves_lanes, cp1_now_shelves_positions, cp1_now_shelves_room, cp1_now_shelves_gap, cp1_now_shelves_places, cp1_now_shelves_picked, cp1_now_shelves_lot, cp1_now_shelves_pieces, cp1_now_shelves_mark, cp1_now_shelves_byDistance, cp1_now_lots_count, cp1_now_lots_product, cp1_now_lots_last, cp1_now_lots_cost, cp1_now_lots_state, cp1_now_lots_byLast, cp1_now_orders_count, cp1_now_orders_gifts, cp1_now_orders_customer, cp1_now_orders_product, cp1_now_orders_open, cp1_now_orders_due, cp1_now_orders_life, cp1_now_orders_byDue, cp1_now_orders_had, cp1_now_orders_stamps, cp1_hk, cp1_st, cp1_plan_terms, cp1_plan_low, cp1_plan_high, cp1_plan_bottom, cp1_plan_cost, cp1_plan_act, cp1_picker_deepest, cp1_picker_shallowest, cp1_picker_widest, cp1_picker_least, cp1_picker_next, cp1_rest, cp1_packed, cp2_raised, cp2_undos, cp2_eldest, cp2_w, cp2_kept, cp2_copy, cp2_near, cp2_isDone, cp2_lane, cp2_position, cp2_least, cp2_boxesOf, cp2_staying, cp2_planned, cp2_scale, cp3) = some z' ∧ R PL z' := by
  have hS := hR.1
  rw [RS_mk] at hS
  obtain ⟨a1, a2, a3, a4, a5, a6, a7, a8, a9, a10, a11, a12, a13, a14, a15⟩ := hS
  have a0 := a1
  obtain ⟨d0, d1, d2, d3, d4, d5, d6, d7, d8, d9, d10, d11, d12, d13, d14, d15, d16, d17, d18, d19, d20, d21, d22, d23, d24, d25, d26⟩ := a0
  obtain ⟨a', ns', hk', st', u', e', k', m1, m2, m3⟩ := remember_keep hR.1 hR.2.2.1
  have m1 : f_X7_remember cp1_acts cp1_nextSlot cp1_hk cp1_st cp1_now_today cp1_now_products cp1_now_itemCount cp1_now_items cp1_now_books cp1_now_terms cp1_now_shelves_lanes cp1_now_shelves_positions cp1_now_shelves_room cp1_now_shelves_gap cp1_now_shelves_places cp1_now_shelves_picked cp1_now_shelves_lot cp1_now_shelves_pieces cp1_now_shelves_mark cp1_now_shelves_byDistance cp1_now_lots_count cp1_now_lots_product cp1_now_lots_last cp1_now_lots_cost cp1_now_lots_state cp1_now_lots_byLast cp1_now_orders_count cp1_now_orders_gifts cp1_now_orders_customer cp1_now_orders_product cp1_now_orders_open cp1_now_orders_due cp1_now_orders_life cp1_now_orders_byDue cp1_now_orders_had cp1_now_orders_stamps = some (a', ns', hk', st') := m1
  have e7 : f_X7_needLot v1 cp1_now_lots_count = _ := n_needLot v1 cp1_now_lots_count d23
  have e8 : f_Y8_isLot v1 cp2_w = _ := n_isLot v1 cp2_w (by rw [d21]; exact d22) (by rw [d21]; exact d23)
  rw [d21] at e8
  by_cases c1 : 0 ≤ v1 ∧ v1 < cp1_now_lots_count
  rotate_left
  · skip
    have h1 : f_W_recall v1 cp1_acts cp1_nextSlot cp1_hk cp1_st cp1_now_today cp1_now_products cp1_now_itemCount cp1_now_items cp1_now_books cp1_now_terms cp1_now_shelves_lanes cp1_now_shelves_positions cp1_now_shelves_room cp1_now_shelves_gap cp1_now_shelves_places cp1_now_shelves_picked cp1_now_shelves_lot cp1_now_shelves_pieces cp1_now_shelves_mark cp1_now_shelves_byDistance cp1_now_lots_count cp1_now_lots_product cp1_now_lots_last cp1_now_lots_cost cp1_now_lots_state cp1_now_lots_byLast cp1_now_orders_count cp1_now_orders_gifts cp1_now_orders_customer cp1_now_orders_product cp1_now_orders_open cp1_now_orders_due cp1_now_orders_life cp1_now_orders_byDue cp1_now_orders_had cp1_now_orders_stamps cp3 = some (1, cp1_acts, cp1_nextSlot, cp1_hk, cp1_st, cp1_now_books, cp1_now_shelves_lot, cp1_now_shelves_pieces, cp1_now_shelves_mark, cp1_now_lots_state, cp3) := by
      unfold f_W_recall f_X7_recall
      rw [e7, if_neg c1]
      simp only [bnd1, bnd10, Option.bind_some, mx, ↓reduceIte]
    have h2 : f_Y8_recall v1 cp2_raised cp2_undos cp2_eldest cp2_w cp2_kept = some (0, 1, cp2_undos, cp2_eldest, cp2_w, cp2_kept) := by
      unfold f_Y8_recall
      rw [e8, if_neg c1]
      simp only [bnd1, bnd2, Option.bind_some, can_f0, ↓reduceIte]
    refine ⟨?wa, ?pa, ?qa⟩
    case pa =>
      rw [fc_8, h1]
      simp only [bnd11, Option.bind_some]
      rw [h2]
      simp only [bnd1, bnd6, Option.bind_some, f_Y8_thrown]
      exact fin_1 (show ¬ (1 : Int32) = 0 by decide)
    case qa =>
      rw [R_mk]
      exact hR
  have q1 := c1.1
  have q2 := c1.2
  obtain ⟨b1, b2, b3, b4, b5, b6, b7, b8, b9, b10, b11, b12⟩ := a5 v1 q1 q2
  have b10' : cp2_w (279 + v1).toNatClampNeg = ix cp1_now_lots_state v1 := b10
  have bs : cp1_now_lots_state v1.toNatClampNeg = ix cp1_now_lots_state v1 := rfl
  by_cases c2 : ix cp1_now_lots_state v1 = 2
  · skip
    have h1 : f_W_recall v1 cp1_acts cp1_nextSlot cp1_hk cp1_st cp1_now_today cp1_now_products cp1_now_itemCount cp1_now_items cp1_now_books cp1_now_terms cp1_now_shelves_lanes cp1_now_shelves_positions cp1_now_shelves_room cp1_now_shelves_gap cp1_now_shelves_places cp1_now_shelves_picked cp1_now_shelves_lot cp1_now_shelves_pieces cp1_now_shelves_mark cp1_now_shelves_byDistance cp1_now_lots_count cp1_now_lots_product cp1_now_lots_last cp1_now_lots_cost cp1_now_lots_state cp1_now_lots_byLast cp1_now_orders_count cp1_now_orders_gifts cp1_now_orders_customer cp1_now_orders_product cp1_now_orders_open cp1_now_orders_due cp1_now_orders_life cp1_now_orders_byDue cp1_now_orders_had cp1_now_orders_stamps cp3 = some (2, cp1_acts, cp1_nextSlot, cp1_hk, cp1_st, cp1_now_books, cp1_now_shelves_lot, cp1_now_shelves_pieces, cp1_now_shelves_mark, cp1_now_lots_state, cp3) := by
      unfold f_W_recall f_X7_recall
      rw [e7, if_pos c1]
      simp only [bnd1, bnd10, Option.bind_some, mx]
      rw [gd_24 q1 (by clear hR m1 m2 m3; grind), bs, if_pos c2]
      unfold f_X7_recall_J26
      simp only [bnd1, n_needState, Option.bind_some, mx, ↓reduceIte, String.reduceEq]
    have h2 : f_Y8_recall v1 cp2_raised cp2_undos cp2_eldest cp2_w cp2_kept = some (0, 2, cp2_undos, cp2_eldest, cp2_w, cp2_kept) := by
      unfold f_Y8_recall
      rw [e8, if_pos c1]
      simp only [bnd1, bnd2, Option.bind_some, can_t, if_neg one_ne]
      rw [gd_2450 (by clear hR m1 m2 m3; grind) (by clear hR m1 m2 m3; grind), b10', if_pos c2]
      unfold f_Y8_recall_J33
      simp only [bnd2, can_f0, Option.bind_some, ↓reduceIte]
    refine ⟨?wb, ?pb, ?qb⟩
    case pb =>
      rw [fc_8, h1]
      simp only [bnd11, Option.bind_some]
      rw [h2]
      simp only [bnd1, bnd6, Option.bind_some, f_Y8_thrown]
      exact fin_1 (show ¬ (2 : Int32) = 0 by decide)
    case qb =>
      rw [R_mk]
      exact hR
  have hw : cp2_w 1 * cp2_w 2 = cp1_now_shelves_places := by rw [d3, d6, d15]
  have hA0 : ∀ A B : Int32, 0 ≤ A → (B ≤ 279 ∨ 303 ≤ A) → AG A B cp2_w (upd cp2_w (279 + v1).toNatClampNeg 2) := fun A B hA h => AG.rf.up hA (by clear hR m1 m2 m3; grind) (by clear hR m1 m2 m3; grind)
  have hP0 : QP cp1_now_shelves_places cp1_now_shelves_room cp1_now_lots_count cp1_now_shelves_lot cp1_now_shelves_pieces cp1_now_shelves_mark (upd cp2_w (279 + v1).toNatClampNeg 2) := QP_ag d17 (hA0 _ _ (by decide) (by decide)) a3
  have hw0 : (upd cp2_w (279 + v1).toNatClampNeg 2) 1 * (upd cp2_w (279 + v1).toNatClampNeg 2) 2 = cp1_now_shelves_places := by
    have z1 : (upd cp2_w (279 + v1).toNatClampNeg 2) 1 = cp2_w 1 := hA0 1 3 (by decide) (by decide) 1 (by decide) (by decide)
    have z2 : (upd cp2_w (279 + v1).toNatClampNeg 2) 2 = cp2_w 2 := hA0 1 3 (by decide) (by decide) 2 (by decide) (by decide)
    rw [z1, z2]; exact hw
  obtain ⟨hd, g1, g2⟩ := a14
  obtain ⟨e, l1, p1, k1, s1, s2, s3, s4⟩ := s_scrapLot (l := v1) (plot := cp1_now_shelves_lot) (pmk := cp1_now_shelves_mark) d16 d17 g1
  obtain ⟨eo, o1, o2⟩ := s_onHand (l := v1) hw0 d16 d17 hP0 q1
  rw [s4] at o1
  have o3 := Option.some.inj o1
  rw [← o3] at o2
  obtain ⟨w', r1, r2, r3⟩ := s_recall (l := v1) (x := e) (y1 := 0) (y2 := u') (y3 := e') (y4 := k') d16 d17 d10 hw0 hP0 g1 q1
  obtain ⟨t1, t2, t3, t4, t5⟩ := r2.fin (by clear hR m1 m2 m3; grind) d17 s2 s3
  have hAG : ∀ A B : Int32, 0 ≤ A → (B ≤ 12 ∨ (13 ≤ A ∧ B ≤ 15) ∨ (159 ≤ A ∧ B ≤ 279) ∨ (303 ≤ A ∧ B ≤ 2450)) → AG A B cp2_w w' := fun A B hA h => by
    rcases h with h | ⟨h, k⟩ | ⟨h, k⟩ | ⟨h, k⟩
    · intro i i1 i2
      by_cases i0 : i = 0
      · subst i0; exact r3.trans (hA0 0 1 (by decide) (by decide) 0 (by decide) (by decide))
      · exact ((hA0 1 12 (by decide) (by decide)).tr t3) i (by clear hR m1 m2 m3; grind) (by clear hR m1 m2 m3; grind)
    · exact (hA0 A B (by clear hR m1 m2 m3; grind) (by clear hR m1 m2 m3; grind)).tr (t4.sub h k)
    · exact (hA0 A B (by clear hR m1 m2 m3; grind) (by clear hR m1 m2 m3; grind)).tr (t5.sub h (by clear hR m1 m2 m3; grind))
    · exact (hA0 A B (by clear hR m1 m2 m3; grind) (by clear hR m1 m2 m3; grind)).tr (t5.sub (by clear hR m1 m2 m3; grind) k)
  · skip
    have h1 : f_W_recall v1 cp1_acts cp1_nextSlot cp1_hk cp1_st cp1_now_today cp1_now_products cp1_now_itemCount cp1_now_items cp1_now_books cp1_now_terms cp1_now_shelves_lanes cp1_now_shelves_positions cp1_now_shelves_room cp1_now_shelves_gap cp1_now_shelves_places cp1_now_shelves_picked cp1_now_shelves_lot cp1_now_shelves_pieces cp1_now_shelves_mark cp1_now_shelves_byDistance cp1_now_lots_count cp1_now_lots_product cp1_now_lots_last cp1_now_lots_cost cp1_now_lots_state cp1_now_lots_byLast cp1_now_orders_count cp1_now_orders_gifts cp1_now_orders_customer cp1_now_orders_product cp1_now_orders_open cp1_now_orders_due cp1_now_orders_life cp1_now_orders_byDue cp1_now_orders_had cp1_now_orders_stamps cp3 = some (0, a', ns', hk', st', (upd cp1_now_books (3 : Int32).toNatClampNeg (cp1_now_books 3 + e)), l1, p1, k1, upd cp1_now_lots_state v1.toNatClampNeg 2, vp_updL cp3 (0 : Int32).toNatClampNeg e.toInt64) := by
      unfold f_W_recall f_X7_recall
      rw [e7, if_pos c1]
      simp only [bnd1, bnd10, Option.bind_some, mx]
      rw [gd_24 q1 (by clear hR m1 m2 m3; grind), bs, if_neg c2]
      unfold f_X7_recall_J26
      simp only [bnd1, bnd4, n_needState, Option.bind_some, mx, if_neg one_ne]
      rw [m1]
      simp only [Option.bind_some]
      rw [gd_24 q1 (by clear hR m1 m2 m3; grind), s1]
      simp only [Option.bind_some]
      rw [gd_6 (by decide) (by decide), gd_6 (by decide) (by decide)]
      simp only [Option.bind_some]
      rw [gd_1 (by decide) (by decide)]
      rfl
    have h2 : f_Y8_recall v1 cp2_raised cp2_undos cp2_eldest cp2_w cp2_kept = some (e, 0, u', e', w', k') := by
      unfold f_Y8_recall
      rw [e8, if_pos c1]
      simp only [bnd1, bnd2, Option.bind_some, can_t, if_neg one_ne]
      rw [gd_2450 (by clear hR m1 m2 m3; grind) (by clear hR m1 m2 m3; grind), b10', if_neg c2]
      unfold f_Y8_recall_J33
      simp only [bnd1, bnd2, bnd3, can_t, Option.bind_some, if_neg one_ne]
      rw [m2]
      simp only [Option.bind_some]
      rw [gd_2450 (by clear hR m1 m2 m3; grind) (by clear hR m1 m2 m3; grind), o2]
      simp only [Option.bind_some]
      rw [r1]
      rfl
    have q5 : QL cp1_now_lots_count cp1_now_products cp1_now_lots_product cp1_now_lots_last cp1_now_lots_cost (upd cp1_now_lots_state v1.toNatClampNeg 2) w' := by
      refine QL_ag d23 (t5.sub (by decide) (by decide)) ?_
      intro n n1 n2
      obtain ⟨g1, g2, g3, g4, g5, g6, g7, g8, g9, g10, g11, g12⟩ := a5 n n1 n2
      refine ⟨?_, g2, g3, ?_, g5, g6, ?_, g8, g9, ?_, ?_, ?_⟩
      · unfold ix; rw [upd_ne (by clear hR m1 m2 m3; grind) (by clear hR m1 m2 m3; grind) (by clear hR m1 m2 m3; grind)]; exact g1
      · unfold ix; rw [upd_ne (by clear hR m1 m2 m3; grind) (by clear hR m1 m2 m3; grind) (by clear hR m1 m2 m3; grind)]; exact g4
      · unfold ix; rw [upd_ne (by clear hR m1 m2 m3; grind) (by clear hR m1 m2 m3; grind) (by clear hR m1 m2 m3; grind)]; exact g7
      · unfold ix
        by_cases hn : n = v1
        · subst hn; rw [upd_same, upd_same]
        · rw [upd_ne (by clear hR m1 m2 m3; grind) (by clear hR m1 m2 m3; grind) (by clear hR m1 m2 m3; grind), upd_ne (by clear hR m1 m2 m3; grind) (by clear hR m1 m2 m3; grind) (by clear hR m1 m2 m3; grind)]; exact g10
      · unfold ix
        by_cases hn : n = v1
        · subst hn; rw [upd_same]; decide
        · rw [upd_ne (by clear hR m1 m2 m3; grind) (by clear hR m1 m2 m3; grind) (by clear hR m1 m2 m3; grind)]; exact g11
      · unfold ix
        by_cases hn : n = v1
        · subst hn; rw [upd_same]; decide
        · rw [upd_ne (by clear hR m1 m2 m3; grind) (by clear hR m1 m2 m3; grind) (by clear hR m1 m2 m3; grind)]; exact g12
    have q2b : QB (upd cp1_now_books (3 : Int32).toNatClampNeg (cp1_now_books 3 + e)) w' := by
      intro n n1 n2
      by_cases hn : n = 3
      · subst hn
        have z1 : (upd cp2_w (279 + v1).toNatClampNeg 2) 12 = cp2_w 12 := hA0 12 13 (by decide) (by decide) 12 (by decide) (by decide)
        have z2 : ix cp2_w 12 = ix cp1_now_books 3 := a2 3 (by decide) (by decide)
        show ix w' 12 = cp1_now_books 3 + e
        rw [t2, show ix (upd cp2_w (279 + v1).toNatClampNeg 2) 12 = cp2_w 12 from z1, show cp2_w 12 = cp1_now_books 3 from z2]
      · have z1 : ix w' (9 + n) = ix cp2_w (9 + n) := by
          by_cases hm : n < 3
          · exact hAG 9 12 (by decide) (by decide) _ (by clear hR m1 m2 m3; grind) (by clear hR m1 m2 m3; grind)
          · exact hAG 13 15 (by decide) (by decide) _ (by clear hR m1 m2 m3; grind) (by clear hR m1 m2 m3; grind)
        rw [z1, a2 n n1 n2]
        show _ = upd cp1_now_books (3 : Int32).toNatClampNeg (cp1_now_books 3 + e) n.toNatClampNeg
        rw [upd_ne (by decide) n1 hn]
    have q14 : QA cp1_now_shelves_places (upd cp1_now_books (3 : Int32).toNatClampNeg (cp1_now_books 3 + e)) p1 := by
      refine ⟨hd - e, s3, ?_⟩
      show (cp1_now_books 0 + cp1_now_books 2 + cp1_now_books 5) - (cp1_now_books 1 + (cp1_now_books 3 + e) + cp1_now_books 4) = hd - e
      rw [← g2]; clear hR m1 m2 m3; grind
    refine ⟨?wd, ?pd, ?qd⟩
    case pd =>
      rw [fc_8, h1]
      simp only [bnd11, Option.bind_some]
      rw [h2]
      simp only [bnd1, bnd6, Option.bind_some, f_Y8_thrown]
      refine fin_0 ?_
      rfl
    case qd =>
      rw [R_mk]
      refine ⟨?_, hR.2.1, m3, hR.2.2.2⟩
      rw [RS_mk]
      exact ⟨QD_ag (hAG _ _ (by decide) (by decide)) a1, q2b, t1, QK_ag (hAG _ _ (by decide) (by decide)) a4, q5, a6, QO_ag d26 (hAG _ _ (by decide) (by decide)) a7, a8, QH_ag d26 (hAG _ _ (by decide) (by decide)) a9, QG_ag d25 d26 (hAG _ _ (by decide) (by decide)) (hAG _ _ (by decide) (by decide)) a10, a11, QI_ag (hAG _ _ (by decide) (by decide)) a12, QT_ag (hAG _ _ (by decide) (by decide)) a13, q14, a15⟩

