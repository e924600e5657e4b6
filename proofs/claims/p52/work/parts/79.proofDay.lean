/-! ===== unfilled, proofDay ===== -/
theorem p_unfilled {tod prods lan pos rom gp plc lcn ocn gif v1 c : Int32} {pkd : Int64} {plot ppc pmk pbd lpr lla lco lst lbl ocu opr oop odu oli obd oha ost crest near dn copy w : Nat → Int32} {o : Nat → Int64}
    (hD : QD tod prods lan pos rom gp plc lcn ocn w) (hP : QP plc rom lcn plot ppc pmk w) (hL : QL lcn prods lpr lla lco lst w) (hLs : QLs lcn lla lbl) (hO : QO ocn prods ocu opr oop odu oli w) (hOs : QLs ocn odu obd) (hH : QH ocn lcn oha w) (hG : QG ocn gif oha ost w) (hS : QS ocn gif oop oha) (hR : QR plc pbd near) :
    ∃ k r' o' b w' c' dn', f_W_unfilled v1 prods plc pkd plot ppc pmk pbd lcn lpr lla lst lbl ocn gif opr oop odu oli obd oha ost crest o = some (k, pkd, plot, ppc, pmk, gif, oop, oha, ost, r', o') ∧ f_Y8_unfilled v1 c w copy near dn = some (b, k, w', c', dn') ∧ RE w w' ∧ (k = 0 → o' 0 = b.toInt64) := by
  obtain ⟨m, r', w', c', dn', s1, s2, s3, s4⟩ := p_left (p := v1) (pkd := pkd) (crest := crest) (dn := dn) (copy := copy) hD hP hL hLs hO hOs hH hG hS hR
  obtain ⟨d0, d1, d2, d3, d4, d5, d6, d7, d8, d9, d10, d11, d12, d13, d14, d15, d16, d17, d18, d19, d20, d21, d22, d23, d24, d25, d26⟩ := hD
  have e8 : f_Y8_isProduct v1 w = _ := n_isProduct v1 w (by grind) (by grind)
  unfold f_W_unfilled f_X7_unfilled f_Y8_unfilled
  rw [n_needProduct, e8, d18]
  simp only [bnd1, bnd2, Option.bind_some, n_can]
  by_cases h1 : 0 ≤ v1 ∧ v1 < prods
  · simp only [if_pos h1, mx, s1, s2, bnd4, bnd10, Option.bind_some]
    exact ⟨0, r', _, m, w', c', dn', gd_1 (by decide) (by decide), rfl, s3, fun _ => rfl⟩
  · simp only [if_neg h1, mx, bnd10, Option.bind_some, ↓reduceIte]
    exact ⟨1, crest, o, 0, w, copy, dn, rfl, rfl, fun _ _ => rfl, fun z => absurd z (by decide)⟩
theorem s_proof {tod prods lan pos rom gp plc lcn ocn gif v1 : Int32} {pkd : Int64} {plot ppc pmk pmk2 pbd lpr lla lco lst lbl ocu opr oop odu oli obd oha ost near dn' c' w' : Nat → Int32}
    (h7 : w' 7 = ocn) (d25 : 0 ≤ ocn) (d26 : ocn ≤ 40) (hD' : QD tod prods lan pos rom gp plc lcn ocn w') (hP' : QP plc rom lcn plot ppc pmk w') (hL' : QL lcn prods lpr lla lco lst w') (hO' : QO ocn prods ocu opr oop odu oli w') (r' : Nat → Int32) :
    ∃ e d, loop (fun z : Int32 × Int32 × Int32 × (Nat → Int32) => f_X7_proofDay_L30 v1 prods plc pkd plot ppc pmk2 pbd lcn lpr lla lst lbl ocn gif opr oop odu oli obd oha ost z.1 z.2.1 z.2.2.1 z.2.2.2) fu (-1, 0, 0, r') = some e ∧ loop (fun z : Int32 × Int32 × Int32 => f_Y8_proofDay_L43 v1 0 w' c' near dn' z.1 z.2.1 z.2.2) fu (-1, 0, 0) = some d ∧ e.1 = d := by
  refine lp_rel (f := fun z : Int32 × Int32 × Int32 × (Nat → Int32) => f_X7_proofDay_L30 v1 prods plc pkd plot ppc pmk2 pbd lcn lpr lla lst lbl ocn gif opr oop odu oli obd oha ost z.1 z.2.1 z.2.2.1 z.2.2.2) (g := fun z : Int32 × Int32 × Int32 => f_Y8_proofDay_L43 v1 0 w' c' near dn' z.1 z.2.1 z.2.2)
    (fun s t => s.1 = t.1 ∧ s.2.1 = t.2.1 ∧ s.2.2.1 = t.2.2 ∧ 0 ≤ t.2.2 ∧ t.2.2 ≤ ocn) (fun e d => e.1 = d) (fun s => msr s.2.2.1 ocn) (by
    rintro ⟨a, b, n, r⟩ ⟨a', b', n'⟩ ⟨g1, g2, g3, g4, g5⟩
    dsimp only at g1 g2 g3 g4 g5 ⊢
    subst g1 g2 g3
    unfold f_X7_proofDay_L30 f_Y8_proofDay_L43
    rw [gd_2450 (by decide) (by decide), show ((7 : Int32).toNatClampNeg) = 7 from rfl, h7]
    by_cases hn : ocn ≤ n
    · exact Or.inr ⟨(a, r), a, by rw [if_pos hn], by rw [if_pos hn], rfl⟩
    · left
      have hn' : n < ocn := by grind
      have rng := hO' n g4 hn'
      have b1 : w' (343 + n).toNatClampNeg = ix opr n := rng.2.2.2.1
      have b2 : w' (383 + n).toNatClampNeg = ix oop n := rng.2.2.2.2.2.2.1
      have b3 : w' (463 + n).toNatClampNeg = ix odu n + ix oli n := rng.2.2.2.2.2.2.2.2.2.2.2.2.1
      have b4 : opr n.toNatClampNeg = ix opr n := rfl
      have b5 : oop n.toNatClampNeg = ix oop n := rfl
      have z1 : n < 40 := by clear rng b1 b2 b3 b4 b5; grind
      have z2 : 0 ≤ 343 + n ∧ 343 + n < 2450 ∧ 0 ≤ 383 + n ∧ 383 + n < 2450 ∧ 0 ≤ 463 + n ∧ 463 + n < 2450 := by clear rng b1 b2 b3 b4 b5; grind
      rw [if_neg hn, if_neg hn, gd_40 g4 z1, gd_40 g4 z1, gd_2450 z2.1 z2.2.1, gd_2450 z2.2.2.1 z2.2.2.2.1, gd_2450 z2.2.2.2.2.1 z2.2.2.2.2.2, b1, b2, b3, b4, b5]
      have n1 : 0 ≤ n + 1 ∧ n + 1 ≤ ocn := by clear rng b1 b2 b3 b4 b5; grind
      unfold f_X7_proofDay_L30_J130 f_X7_proofDay_L30_J124 f_Y8_proofDay_L43_J135 f_Y8_proofDay_L43_J129 f_X7_proofDay_L30_J130 f_Y8_proofDay_L43_J135
      have mm : msr (n + 1) ocn < msr n ocn := msr_lt hn'
      by_cases h1 : ix opr n = v1
      · rw [if_pos h1, if_pos h1]
        by_cases h2 : ix oop n ≤ 0
        · rw [if_pos h2, if_pos h2]
          exact ⟨_, _, rfl, rfl, ⟨rfl, rfl, rfl, n1⟩, mm⟩
        · obtain ⟨x, r1, x1, x2⟩ := s_lack (p := v1) (day := ix odu n + ix oli n) hD' hP' hL' hO' r
          rw [if_neg h2, if_neg h2, n_wanted d26 g4 hn']
          simp only [bnd1, Option.bind_some]
          rw [x1, x2]
          simp only [bnd2, Option.bind_some]
          by_cases h3 : a = -1
          · rw [if_pos h3, if_pos h3]
            exact ⟨_, _, rfl, rfl, ⟨rfl, rfl, rfl, n1⟩, mm⟩
          · rw [if_neg h3, if_neg h3]
            by_cases h4 : b < x
            · rw [if_pos h4, if_pos h4]
              exact ⟨_, _, rfl, rfl, ⟨rfl, rfl, rfl, n1⟩, mm⟩
            · rw [if_neg h4, if_neg h4]
              by_cases h5 : x = b
              · rw [if_pos h5, if_pos h5]
                by_cases h6 : a ≤ ix odu n + ix oli n
                · rw [if_pos h6, if_pos h6]
                  exact ⟨_, _, rfl, rfl, ⟨rfl, rfl, rfl, n1⟩, mm⟩
                · rw [if_neg h6, if_neg h6]
                  exact ⟨_, _, rfl, rfl, ⟨rfl, rfl, rfl, n1⟩, mm⟩
              · rw [if_neg h5, if_neg h5]
                exact ⟨_, _, rfl, rfl, ⟨rfl, rfl, rfl, n1⟩, mm⟩
      · rw [if_neg h1, if_neg h1]
        exact ⟨_, _, rfl, rfl, ⟨rfl, rfl, rfl, n1⟩, mm⟩) fu (-1, 0, 0, r') (-1, 0, 0) ⟨rfl, rfl, rfl, by dsimp only; decide, d25⟩ (msr_fu (by dsimp only; decide) (by grind))
theorem p_proofDay {tod prods lan pos rom gp plc lcn ocn gif v1 c : Int32} {pkd : Int64} {plot ppc pmk pbd lpr lla lco lst lbl ocu opr oop odu oli obd oha ost crest near dn copy w : Nat → Int32} {o : Nat → Int64}
    (hD : QD tod prods lan pos rom gp plc lcn ocn w) (hP : QP plc rom lcn plot ppc pmk w) (hL : QL lcn prods lpr lla lco lst w) (hLs : QLs lcn lla lbl) (hO : QO ocn prods ocu opr oop odu oli w) (hOs : QLs ocn odu obd) (hH : QH ocn lcn oha w) (hG : QG ocn gif oha ost w) (hS : QS ocn gif oop oha) (hR : QR plc pbd near) :
    ∃ k r' o' b w' c' dn', f_W_proofDay v1 prods plc pkd plot ppc pmk pbd lcn lpr lla lst lbl ocn gif opr oop odu oli obd oha ost crest o = some (k, pkd, plot, ppc, pmk, gif, oop, oha, ost, r', o') ∧ f_Y8_proofDay v1 c w copy near dn = some (b, k, w', c', dn') ∧ RE w w' ∧ (k = 0 → o' 0 = b.toInt64) := by
  obtain ⟨m, r', w', c', dn', s1, s2, s3, s4⟩ := p_left (p := v1) (pkd := pkd) (crest := crest) (dn := dn) (copy := copy) hD hP hL hLs hO hOs hH hG hS hR
  have hD' := QD_re s3 hD
  obtain ⟨d0, d1, d2, d3, d4, d5, d6, d7, d8, d9, d10, d11, d12, d13, d14, d15, d16, d17, d18, d19, d20, d21, d22, d23, d24, d25, d26⟩ := hD
  have hP' := QP_re d17 s3 hP
  have hL' := QL_re d23 s3 hL
  have hO' := QO_re d26 s3 hO
  have h7 : w' 7 = ocn := (s3 7 (by decide)).trans d24
  have e8 : f_Y8_isProduct v1 w = _ := n_isProduct v1 w (by grind) (by grind)
  obtain ⟨e, d, q1, q2, q3⟩ := s_proof (v1 := v1) (pkd := pkd) (pmk2 := pmk) (pbd := pbd) (lbl := lbl) (gif := gif) (obd := obd) (oha := oha) (ost := ost) (c' := c') (near := near) (dn' := dn') h7 d25 d26 hD' hP' hL' hO' r'
  have c0 : f_Y8_can 0 2 0 = some (0, 2) := by simpa using n_can (p := False) 2 0
  have c1 : f_Y8_can 1 2 0 = some (1, 0) := by simpa using n_can (p := True) 2 0
  unfold f_W_proofDay f_X7_proofDay f_Y8_proofDay f_Y8_proofDay_J27
  rw [n_needProduct, e8, d18]
  simp only [bnd1, bnd2, Option.bind_some, n_can]
  by_cases h1 : 0 ≤ v1 ∧ v1 < prods
  · simp only [if_pos h1, mx, s1, s2, bnd4, bnd10, Option.bind_some]
    by_cases hm : m = 0
    · subst hm
      simp only [if_neg one_ne, c0, Int32.le_refl, ↓reduceIte, Option.bind_some]
      exact ⟨2, r', o, 0, w', c', dn', rfl, rfl, s3, fun z => absurd z (by decide)⟩
    · have hm2 : ¬ m ≤ 0 := by grind
      simp only [if_neg one_ne, if_neg hm, if_neg hm2, c1, Option.bind_some]
      rw [q1, q2]
      simp only [Option.bind_some]
      rw [gd_1 (by decide) (by decide)]
      exact ⟨0, _, _, _, w', c', dn', rfl, rfl, s3, fun _ => by rw [← q3]; rfl⟩
  · simp only [if_neg h1, mx, bnd10, Option.bind_some, ↓reduceIte]
    exact ⟨1, crest, o, 0, w, copy, dn, rfl, rfl, fun _ _ => rfl, fun z => absurd z (by decide)⟩
set_option maxRecDepth 4000 in
theorem cs_27 (PL : (Nat → Int32) → (Nat → Int32) → (Nat → Int32) → (Nat → Int64) → (Nat → Int64) → (Nat → Int32) → Prop) (cp1_acts : Int32) (cp1_nextSlot : Int32) (cp1_now_today : Int32) (cp1_now_products : Int32) (cp1_now_itemCount : Int32) (cp1_now_items : Nat → Int32) (cp1_now_books : Nat → Int32) (cp1_now_terms : Nat → Int32) (cp1_now_shelves_lanes : Int32) (cp1_now_shelves_positions : Int32) (cp1_now_shelves_room : Int32) (cp1_now_shelves_gap : Int32) (cp1_now_shelves_places : Int32) (cp1_now_shelves_picked : Int64) (cp1_now_shelves_lot : Nat → Int32) (cp1_now_shelves_pieces : Nat → Int32) (cp1_now_shelves_mark : Nat → Int32) (cp1_now_shelves_byDistance : Nat → Int32) (cp1_now_lots_count : Int32) (cp1_now_lots_product : Nat → Int32) (cp1_now_lots_last : Nat → Int32) (cp1_now_lots_cost : Nat → Int32) (cp1_now_lots_state : Nat → Int32) (cp1_now_lots_byLast : Nat → Int32) (cp1_now_orders_count : Int32) (cp1_now_orders_gifts : Int32) (cp1_now_orders_customer : Nat → Int32) (cp1_now_orders_product : Nat → Int32) (cp1_now_orders_open : Nat → Int32) (cp1_now_orders_due : Nat → Int32) (cp1_now_orders_life : Nat → Int32) (cp1_now_orders_byDue : Nat → Int32) (cp1_now_orders_had : Nat → Int32) (cp1_now_orders_stamps : Nat → Int32) (cp1_hk : Nat) (cp1_st : Nat → StT) (cp1_plan_terms : Nat → Int32) (cp1_plan_low : Nat → Int32) (cp1_plan_high : Nat → Int32) (cp1_plan_bottom : Nat → Int64) (cp1_plan_cost : Nat → Int64) (cp1_plan_act : Nat → Int32) (cp1_picker_deepest : Int32) (cp1_picker_shallowest : Int32) (cp1_picker_widest : Int32) (cp1_picker_least : Nat → Int32) (cp1_picker_next : Nat → Int32) (cp1_rest : Nat → Int32) (cp1_packed : Nat → Int32) (cp2_raised : Int32) (cp2_undos : Int32) (cp2_eldest : Int32) (cp2_w : Nat → Int32) (cp2_kept : Nat → Int32) (cp2_copy : Nat → Int32) (cp2_near : Nat → Int32) (cp2_isDone : Nat → Int32) (cp2_lane : Nat → Int32) (cp2_position : Nat → Int32) (cp2_least : Nat → Int32) (cp2_boxesOf : Nat → Int32) (cp2_staying : Nat → Int64) (cp2_planned : Nat → Int64) (cp2_scale : Nat → Int64) (cp3 : Nat → Int64) (v1 v2 v3 v4 v5 : Int32) (hR : RC PL (cp1_now_today, cp1_now_products, cp1_now_itemCount, cp1_now_items, cp1_now_books, cp1_now_terms, cp1_now_shelves_lanes, cp1_now_shelves_positions, cp1_now_shelves_room, cp1_now_shelves_gap, cp1_now_shelves_places, cp1_now_shelves_picked, cp1_now_shelves_lot, cp1_now_shelves_pieces, cp1_now_shelves_mark, cp1_now_shelves_byDistance, cp1_now_lots_count, cp1_now_lots_product, cp1_now_lots_last, cp1_now_lots_cost, cp1_now_lots_state, cp1_now_lots_byLast, cp1_now_orders_count, cp1_now_orders_gifts, cp1_now_orders_customer, cp1_now_orders_product, cp1_now_orders_open, cp1_now_orders_due, cp1_now_orders_life, cp1_now_orders_byDue, cp1_now_orders_had, cp1_now_orders_stamps) cp2_w cp2_near cp1_acts cp1_nextSlot cp1_hk cp1_st cp2_undos cp2_eldest cp2_kept cp1_plan_terms cp1_plan_low cp1_plan_high cp1_plan_bottom cp1_plan_cost cp1_plan_act) : ∃ z', f_c27 v1 v2 v3 v4 v5 (cp1_acts, cp1_nextSlot, cp1_now_today, cp1_now_products, cp1_now_itemCount, cp1_now_items, cp1_now_books, cp1_now_terms, cp1_now_shelves_lanes, cp1_now_shelves_positions, cp1_now_shelves_room, cp1_now_shelves_gap, cp1_now_shelves_places, cp1_now_shelves_picked, cp1_now_shelves_lot, cp1_now_shelves_pieces, cp1_now_shelves_mark, cp1_now_shelves_byDistance, cp1_now_lots_count, cp1_now_lots_product, cp1_now_lots_last, cp1_now_lots_cost, cp1_now_lots_state, cp1_now_lots_byLast, cp1_now_orders_count, cp1_now_orders_gifts, cp1_now_orders_customer, cp1_now_orders_product, cp1_now_orders_open, cp1_now_orders_due, cp1_now_orders_life, cp1_now_orders_byDue, cp1_now_orders_had, cp1_now_orders_stamps, cp1_hk, cp1_st, cp1_plan_terms, cp1_plan_low, cp1_plan_high, cp1_plan_bottom, cp1_plan_cost, cp1_plan_act, cp1_picker_deepest, cp1_picker_shallowest, cp1_picker_widest, cp1_picker_least, cp1_picker_next, cp1_rest, cp1_packed, cp2_raised, cp2_undos, cp2_eldest, cp2_w, cp2_kept, cp2_copy, cp2_near, cp2_isDone, cp2_lane, cp2_position, cp2_least, cp2_boxesOf, cp2_staying, cp2_planned, cp2_scale, cp3) = some z' ∧ R PL z' := by
  have hS := hR.1
  rw [RS_mk] at hS
  obtain ⟨a1, a2, a3, a4, a5, a6, a7, a8, a9, a10, a11, a12, a13, a14, a15⟩ := hS
  obtain ⟨k, r', o', b, w', c', dn', h1, h2, h4, h3⟩ := p_unfilled (v1 := v1) (c := cp2_raised) (o := cp3) (pkd := cp1_now_shelves_picked) (crest := cp1_rest) (dn := cp2_isDone) (copy := cp2_copy) a1 a3 a5 a6 a7 a8 a9 a10 a11 hR.2.1
  refine ⟨?w, ?h1, ?h2⟩
  case h1 =>
    rw [fc_27, h1]
    simp only [bnd11, Option.bind_some]
    rw [h2]
    simp only [bnd1, bnd5, Option.bind_some, f_Y8_thrown]
    exact fin_ok2 h3
  case h2 => rw [R_mk]; exact ⟨RS_re h4 hR.1, hR.2⟩
set_option maxRecDepth 4000 in
theorem cs_28 (PL : (Nat → Int32) → (Nat → Int32) → (Nat → Int32) → (Nat → Int64) → (Nat → Int64) → (Nat → Int32) → Prop) (cp1_acts : Int32) (cp1_nextSlot : Int32) (cp1_now_today : Int32) (cp1_now_products : Int32) (cp1_now_itemCount : Int32) (cp1_now_items : Nat → Int32) (cp1_now_books : Nat → Int32) (cp1_now_terms : Nat → Int32) (cp1_now_shelves_lanes : Int32) (cp1_now_shelves_positions : Int32) (cp1_now_shelves_room : Int32) (cp1_now_shelves_gap : Int32) (cp1_now_shelves_places : Int32) (cp1_now_shelves_picked : Int64) (cp1_now_shelves_lot : Nat → Int32) (cp1_now_shelves_pieces : Nat → Int32) (cp1_now_shelves_mark : Nat → Int32) (cp1_now_shelves_byDistance : Nat → Int32) (cp1_now_lots_count : Int32) (cp1_now_lots_product : Nat → Int32) (cp1_now_lots_last : Nat → Int32) (cp1_now_lots_cost : Nat → Int32) (cp1_now_lots_state : Nat → Int32) (cp1_now_lots_byLast : Nat → Int32) (cp1_now_orders_count : Int32) (cp1_now_orders_gifts : Int32) (cp1_now_orders_customer : Nat → Int32) (cp1_now_orders_product : Nat → Int32) (cp1_now_orders_open : Nat → Int32) (cp1_now_orders_due : Nat → Int32) (cp1_now_orders_life : Nat → Int32) (cp1_now_orders_byDue : Nat → Int32) (cp1_now_orders_had : Nat → Int32) (cp1_now_orders_stamps : Nat → Int32) (cp1_hk : Nat) (cp1_st : Nat → StT) (cp1_plan_terms : Nat → Int32) (cp1_plan_low : Nat → Int32) (cp1_plan_high : Nat → Int32) (cp1_plan_bottom : Nat → Int64) (cp1_plan_cost : Nat → Int64) (cp1_plan_act : Nat → Int32) (cp1_picker_deepest : Int32) (cp1_picker_shallowest : Int32) (cp1_picker_widest : Int32) (cp1_picker_least : Nat → Int32) (cp1_picker_next : Nat → Int32) (cp1_rest : Nat → Int32) (cp1_packed : Nat → Int32) (cp2_raised : Int32) (cp2_undos : Int32) (cp2_eldest : Int32) (cp2_w : Nat → Int32) (cp2_kept : Nat → Int32) (cp2_copy : Nat → Int32) (cp2_near : Nat → Int32) (cp2_isDone : Nat → Int32) (cp2_lane : Nat → Int32) (cp2_position : Nat → Int32) (cp2_least : Nat → Int32) (cp2_boxesOf : Nat → Int32) (cp2_staying : Nat → Int64) (cp2_planned : Nat → Int64) (cp2_scale : Nat → Int64) (cp3 : Nat → Int64) (v1 v2 v3 v4 v5 : Int32) (hR : RC PL (cp1_now_today, cp1_now_products, cp1_now_itemCount, cp1_now_items, cp1_now_books, cp1_now_terms, cp1_now_shelves_lanes, cp1_now_shelves_positions, cp1_now_shelves_room, cp1_now_shelves_gap, cp1_now_shelves_places, cp1_now_shelves_picked, cp1_now_shelves_lot, cp1_now_shelves_pieces, cp1_now_shelves_mark, cp1_now_shelves_byDistance, cp1_now_lots_count, cp1_now_lots_product, cp1_now_lots_last, cp1_now_lots_cost, cp1_now_lots_state, cp1_now_lots_byLast, cp1_now_orders_count, cp1_now_orders_gifts, cp1_now_orders_customer, cp1_now_orders_product, cp1_now_orders_open, cp1_now_orders_due, cp1_now_orders_life, cp1_now_orders_byDue, cp1_now_orders_had, cp1_now_orders_stamps) cp2_w cp2_near cp1_acts cp1_nextSlot cp1_hk cp1_st cp2_undos cp2_eldest cp2_kept cp1_plan_terms cp1_plan_low cp1_plan_high cp1_plan_bottom cp1_plan_cost cp1_plan_act) : ∃ z', f_c28 v1 v2 v3 v4 v5 (cp1_acts, cp1_nextSlot, cp1_now_today, cp1_now_products, cp1_now_itemCount, cp1_now_items, cp1_now_books, cp1_now_terms, cp1_now_shelves_lanes, cp1_now_shelves_positions, cp1_now_shelves_room, cp1_now_shelves_gap, cp1_now_shelves_places, cp1_now_shelves_picked, cp1_now_shelves_lot, cp1_now_shelves_pieces, cp1_now_shelves_mark, cp1_now_shelves_byDistance, cp1_now_lots_count, cp1_now_lots_product, cp1_now_lots_last, cp1_now_lots_cost, cp1_now_lots_state, cp1_now_lots_byLast, cp1_now_orders_count, cp1_now_orders_gifts, cp1_now_orders_customer, cp1_now_orders_product, cp1_now_orders_open, cp1_now_orders_due, cp1_now_orders_life, cp1_now_orders_byDue, cp1_now_orders_had, cp1_now_orders_stamps, cp1_hk, cp1_st, cp1_plan_terms, cp1_plan_low, cp1_plan_high, cp1_plan_bottom, cp1_plan_cost, cp1_plan_act, cp1_picker_deepest, cp1_picker_shallowest, cp1_picker_widest, cp1_picker_least, cp1_picker_next, cp1_rest, cp1_packed, cp2_raised, cp2_undos, cp2_eldest, cp2_w, cp2_kept, cp2_copy, cp2_near, cp2_isDone, cp2_lane, cp2_position, cp2_least, cp2_boxesOf, cp2_staying, cp2_planned, cp2_scale, cp3) = some z' ∧ R PL z' := by
  have hS := hR.1
  rw [RS_mk] at hS
  obtain ⟨a1, a2, a3, a4, a5, a6, a7, a8, a9, a10, a11, a12, a13, a14, a15⟩ := hS
  obtain ⟨k, r', o', b, w', c', dn', h1, h2, h4, h3⟩ := p_proofDay (v1 := v1) (c := cp2_raised) (o := cp3) (pkd := cp1_now_shelves_picked) (crest := cp1_rest) (dn := cp2_isDone) (copy := cp2_copy) a1 a3 a5 a6 a7 a8 a9 a10 a11 hR.2.1
  refine ⟨?w, ?h1, ?h2⟩
  case h1 =>
    rw [fc_28, h1]
    simp only [bnd11, Option.bind_some]
    rw [h2]
    simp only [bnd1, bnd5, Option.bind_some, f_Y8_thrown]
    exact fin_ok2 h3
  case h2 => rw [R_mk]; exact ⟨RS_re h4 hR.1, hR.2⟩
