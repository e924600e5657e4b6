/-! ===== what each act answers and changes ===== -/
theorem wv_hold {v1 v2 : Int32} {c_acts : Int32} {c_nextSlot : Int32} {c_hk : Nat} {c_st : Nat → StT} {c_now_today : Int32} {c_now_products : Int32} {c_now_itemCount : Int32} {c_now_items : Nat → Int32} {c_now_books : Nat → Int32} {c_now_terms : Nat → Int32} {c_now_shelves_lanes : Int32} {c_now_shelves_positions : Int32} {c_now_shelves_room : Int32} {c_now_shelves_gap : Int32} {c_now_shelves_places : Int32} {c_now_shelves_picked : Int64} {c_now_shelves_lot : Nat → Int32} {c_now_shelves_pieces : Nat → Int32} {c_now_shelves_mark : Nat → Int32} {c_now_shelves_byDistance : Nat → Int32} {c_now_lots_count : Int32} {c_now_lots_product : Nat → Int32} {c_now_lots_last : Nat → Int32} {c_now_lots_cost : Nat → Int32} {c_now_lots_state : Nat → Int32} {c_now_lots_byLast : Nat → Int32} {c_now_orders_count : Int32} {c_now_orders_gifts : Int32} {c_now_orders_customer : Nat → Int32} {c_now_orders_product : Nat → Int32} {c_now_orders_open : Nat → Int32} {c_now_orders_due : Nat → Int32} {c_now_orders_life : Nat → Int32} {c_now_orders_byDue : Nat → Int32} {c_now_orders_had : Nat → Int32} {c_now_orders_stamps : Nat → Int32} {c3 o3 : Nat → Int64} {r1 : Int32} {o_acts : Int32} {o_nextSlot : Int32} {o_hk : Nat} {o_st : Nat → StT} {o_now_lots_state : Nat → Int32} (h : f_W_hold v1 v2 c_acts c_nextSlot c_hk c_st c_now_today c_now_products c_now_itemCount c_now_items c_now_books c_now_terms c_now_shelves_lanes c_now_shelves_positions c_now_shelves_room c_now_shelves_gap c_now_shelves_places c_now_shelves_picked c_now_shelves_lot c_now_shelves_pieces c_now_shelves_mark c_now_shelves_byDistance c_now_lots_count c_now_lots_product c_now_lots_last c_now_lots_cost c_now_lots_state c_now_lots_byLast c_now_orders_count c_now_orders_gifts c_now_orders_customer c_now_orders_product c_now_orders_open c_now_orders_due c_now_orders_life c_now_orders_byDue c_now_orders_had c_now_orders_stamps c3 = some (r1, o_acts, o_nextSlot, o_hk, o_st, o_now_lots_state, o3)) : ∃ r, f_X7_hold v1 v2 c_acts c_nextSlot c_hk c_st c_now_today c_now_products c_now_itemCount c_now_items c_now_books c_now_terms c_now_shelves_lanes c_now_shelves_positions c_now_shelves_room c_now_shelves_gap c_now_shelves_places c_now_shelves_picked c_now_shelves_lot c_now_shelves_pieces c_now_shelves_mark c_now_shelves_byDistance c_now_lots_count c_now_lots_product c_now_lots_last c_now_lots_cost c_now_lots_state c_now_lots_byLast c_now_orders_count c_now_orders_gifts c_now_orders_customer c_now_orders_product c_now_orders_open c_now_orders_due c_now_orders_life c_now_orders_byDue c_now_orders_had c_now_orders_stamps = some (r, o_acts, o_nextSlot, o_hk, o_st, o_now_lots_state) := by
  unfold f_W_hold at h
  obtain ⟨r, q0, q1, q2, q3, q4, hx, h⟩ := ob6 h
  refine ⟨r, ?_⟩
  cases r with
  | ok v =>
    have h := mx_o h
    try dsimp only at h
    split at h
    all_goals (unfold f_W_hold_J16 at h; obtain ⟨_, h⟩ := ob_d h; cases h; exact hx)
  | error e =>
    have h := mx_e h
    try dsimp only at h
    repeat' (split at h)
    all_goals first | (cases h; done) | (cases h; exact hx)
set_option maxRecDepth 4000 in
theorem iv_hold (v1 : Int32) {c_now_today : Int32} {c_now_products : Int32} {c_now_itemCount : Int32} {c_now_items : Nat → Int32} {c_now_books : Nat → Int32} {c_now_terms : Nat → Int32} {c_now_shelves_lanes : Int32} {c_now_shelves_positions : Int32} {c_now_shelves_room : Int32} {c_now_shelves_gap : Int32} {c_now_shelves_places : Int32} {c_now_shelves_picked : Int64} {c_now_shelves_lot : Nat → Int32} {c_now_shelves_pieces : Nat → Int32} {c_now_shelves_mark : Nat → Int32} {c_now_shelves_byDistance : Nat → Int32} {c_now_lots_count : Int32} {c_now_lots_product : Nat → Int32} {c_now_lots_last : Nat → Int32} {c_now_lots_cost : Nat → Int32} {c_now_lots_state : Nat → Int32} {c_now_lots_byLast : Nat → Int32} {c_now_orders_count : Int32} {c_now_orders_gifts : Int32} {c_now_orders_customer : Nat → Int32} {c_now_orders_product : Nat → Int32} {c_now_orders_open : Nat → Int32} {c_now_orders_due : Nat → Int32} {c_now_orders_life : Nat → Int32} {c_now_orders_byDue : Nat → Int32} {c_now_orders_had : Nat → Int32} {c_now_orders_stamps : Nat → Int32} {c_acts : Int32} {c_nextSlot : Int32} {c_hk : Nat} {c_st : Nat → StT} {c_plan_terms : Nat → Int32} {c_plan_low : Nat → Int32} {c_plan_high : Nat → Int32} {c_plan_bottom : Nat → Int64} {c_plan_cost : Nat → Int64} {c_plan_act : Nat → Int32} (h : JV (c_now_today, c_now_products, c_now_itemCount, c_now_items, c_now_books, c_now_terms, c_now_shelves_lanes, c_now_shelves_positions, c_now_shelves_room, c_now_shelves_gap, c_now_shelves_places, c_now_shelves_picked, c_now_shelves_lot, c_now_shelves_pieces, c_now_shelves_mark, c_now_shelves_byDistance, c_now_lots_count, c_now_lots_product, c_now_lots_last, c_now_lots_cost, c_now_lots_state, c_now_lots_byLast, c_now_orders_count, c_now_orders_gifts, c_now_orders_customer, c_now_orders_product, c_now_orders_open, c_now_orders_due, c_now_orders_life, c_now_orders_byDue, c_now_orders_had, c_now_orders_stamps) c_acts c_nextSlot c_hk c_st c_plan_terms c_plan_low c_plan_high c_plan_bottom c_plan_cost c_plan_act) : ∃ (r : Except String Int32) (o_acts : Int32) (o_nextSlot : Int32) (o_hk : Nat) (o_st : Nat → StT) (o_now_lots_state : Nat → Int32), f_X7_hold v1 1 c_acts c_nextSlot c_hk c_st c_now_today c_now_products c_now_itemCount c_now_items c_now_books c_now_terms c_now_shelves_lanes c_now_shelves_positions c_now_shelves_room c_now_shelves_gap c_now_shelves_places c_now_shelves_picked c_now_shelves_lot c_now_shelves_pieces c_now_shelves_mark c_now_shelves_byDistance c_now_lots_count c_now_lots_product c_now_lots_last c_now_lots_cost c_now_lots_state c_now_lots_byLast c_now_orders_count c_now_orders_gifts c_now_orders_customer c_now_orders_product c_now_orders_open c_now_orders_due c_now_orders_life c_now_orders_byDue c_now_orders_had c_now_orders_stamps = some (r, o_acts, o_nextSlot, o_hk, o_st, o_now_lots_state) ∧ JV (c_now_today, c_now_products, c_now_itemCount, c_now_items, c_now_books, c_now_terms, c_now_shelves_lanes, c_now_shelves_positions, c_now_shelves_room, c_now_shelves_gap, c_now_shelves_places, c_now_shelves_picked, c_now_shelves_lot, c_now_shelves_pieces, c_now_shelves_mark, c_now_shelves_byDistance, c_now_lots_count, c_now_lots_product, c_now_lots_last, c_now_lots_cost, o_now_lots_state, c_now_lots_byLast, c_now_orders_count, c_now_orders_gifts, c_now_orders_customer, c_now_orders_product, c_now_orders_open, c_now_orders_due, c_now_orders_life, c_now_orders_byDue, c_now_orders_had, c_now_orders_stamps) o_acts o_nextSlot o_hk o_st c_plan_terms c_plan_low c_plan_high c_plan_bottom c_plan_cost c_plan_act := by
  obtain ⟨w, near, undos, eldest, kept, hR⟩ := h
  obtain ⟨z9, hf, hz⟩ := cs_7 PL c_acts c_nextSlot c_now_today c_now_products c_now_itemCount c_now_items c_now_books c_now_terms c_now_shelves_lanes c_now_shelves_positions c_now_shelves_room c_now_shelves_gap c_now_shelves_places c_now_shelves_picked c_now_shelves_lot c_now_shelves_pieces c_now_shelves_mark c_now_shelves_byDistance c_now_lots_count c_now_lots_product c_now_lots_last c_now_lots_cost c_now_lots_state c_now_lots_byLast c_now_orders_count c_now_orders_gifts c_now_orders_customer c_now_orders_product c_now_orders_open c_now_orders_due c_now_orders_life c_now_orders_byDue c_now_orders_had c_now_orders_stamps c_hk c_st c_plan_terms c_plan_low c_plan_high c_plan_bottom c_plan_cost c_plan_act 0 0 0 (fun _ => 0) (fun _ => 0) (fun _ => 0) (fun _ => 0) 0 undos eldest w kept (fun _ => 0) near (fun _ => 0) (fun _ => 0) (fun _ => 0) (fun _ => 0) (fun _ => 0) (fun _ => 0) (fun _ => 0) (fun _ => 0) (fun _ => 0) v1 1 0 0 0 hR
  rw [fc_7, if_neg one_ne] at hf
  obtain ⟨r1, o_acts, o_nextSlot, o_hk, o_st, o_now_lots_state, o3, h1, hf⟩ := ob7 hf
  rw [if_neg one_ne] at hf
  obtain ⟨r, hx⟩ := wv_hold h1
  obtain ⟨a0, a1, a2, a3, a4, a5, h2, hf⟩ := ob6 hf
  refine ⟨r, o_acts, o_nextSlot, o_hk, o_st, o_now_lots_state, hx, ?_⟩
  obtain ⟨r25, h3, hf⟩ := ob1 hf
  split at hf
  · split at hf
    · obtain ⟨_, hf⟩ := ob_d hf
      split at hf
      all_goals split at hf
      all_goals first | (cases hf; done) | (cases hf; rw [R_mk] at hz; exact ⟨_, _, _, _, _, hz⟩)
    · cases hf; rw [R_mk] at hz; exact ⟨_, _, _, _, _, hz⟩
  · cases hf
theorem ok_1 {ε α : Type} {p : Prop} [Decidable p] {a : α} {e : ε} {r : Except ε α} (hp : p) (h : some (if p then .ok a else .error e) = some r) : r = .ok a := by
  rw [if_pos hp] at h; cases h; rfl
theorem ns_1 {v : Int32} {r : Except String Unit} (hv : v ≠ 0) (h : f_X7_needState v = some r) : r = .ok () := by
  rw [n_needState, if_neg hv] at h; cases h; rfl
theorem nr_1 {v a b : Int32} {r : Except String Unit} (h1 : a ≤ v) (h2 : v ≤ b) (h : f_X7_needRange v a b = some r) : r = .ok () := by
  rw [n_range] at h; exact ok_1 ⟨h1, h2⟩ h
theorem x_newHouse {v1 : Int32} {v2 : Int32} {v3 : Int32} {v4 : Int32} {acts : Int32} {ns : Int32} {hk : Nat} {st : Nat → StT} {tod : Int32} {prods : Int32} {icnt : Int32} {itm : Nat → Int32} {bks : Nat → Int32} {trm : Nat → Int32} {lan : Int32} {pos : Int32} {rom : Int32} {gp : Int32} {plc : Int32} {pkd : Int64} {plot : Nat → Int32} {ppc : Nat → Int32} {pmk : Nat → Int32} {pbd : Nat → Int32} {lcn : Int32} {lpr : Nat → Int32} {lla : Nat → Int32} {lco : Nat → Int32} {lst : Nat → Int32} {lbl : Nat → Int32} {ocn : Int32} {gif : Int32} {ocu : Nat → Int32} {opr : Nat → Int32} {oop : Nat → Int32} {odu : Nat → Int32} {oli : Nat → Int32} {obd : Nat → Int32} {oha : Nat → Int32} {ost : Nat → Int32} {r : Except String Int32} {acts' : Int32} {ns' : Int32} {hk' : Nat} {st' : Nat → StT} {tod' : Int32} {prods' : Int32} {bks' : Nat → Int32} {lan' : Int32} {pos' : Int32} {rom' : Int32} {gp' : Int32} {plc' : Int32} {pkd' : Int64} {plot' : Nat → Int32} {ppc' : Nat → Int32} {pmk' : Nat → Int32} {pbd' : Nat → Int32} {lcn' : Int32} {ocn' : Int32} {gif' : Int32} (l1 : 1 ≤ v1) (l2 : v1 ≤ 6) (p1 : 1 ≤ v2) (p2 : v2 ≤ 8) (r1 : 1 ≤ v3) (r2 : v3 ≤ 20) (g1 : 1 ≤ v4) (g2 : v4 ≤ 5) (h : f_X7_newHouse v1 v2 v3 v4 acts ns hk st tod prods icnt itm bks trm lan pos rom gp plc pkd plot ppc pmk pbd lcn lpr lla lco lst lbl ocn gif ocu opr oop odu oli obd oha ost = some (r, acts', ns', hk', st', tod', prods', bks', lan', pos', rom', gp', plc', pkd', plot', ppc', pmk', pbd', lcn', ocn', gif')) : r = .ok (v1 * v2) ∧ tod' = 0 ∧ prods' = 0 ∧ lan' = v1 ∧ pos' = v2 ∧ rom' = v3 ∧ gp' = v4 ∧ plc' = v1 * v2 ∧ lcn' = 0 ∧ ocn' = 0 ∧ ∀ i : Int32, 0 ≤ i → i < v1 * v2 → ix pmk' i = 0 := by
  obtain ⟨c0, c1⟩ := prod_rng l1 l2 p1 p2
  unfold f_X7_newHouse at h
  obtain ⟨r11, e11, h⟩ := ob1 h
  have e11 := nr_1 l1 l2 e11
  subst e11
  have h := mx_o h
  try dsimp only at h
  obtain ⟨r12, e12, h⟩ := ob1 h
  have e12 := nr_1 p1 p2 e12
  subst e12
  have h := mx_o h
  try dsimp only at h
  obtain ⟨r13, e13, h⟩ := ob1 h
  have e13 := nr_1 r1 r2 e13
  subst e13
  have h := mx_o h
  try dsimp only at h
  obtain ⟨r14, e14, h⟩ := ob1 h
  have e14 := nr_1 g1 g2 e14
  subst e14
  have h := mx_o h
  try dsimp only at h
  obtain ⟨q1, q2, q3, q4, -, h⟩ := ob4 h
  obtain ⟨s1, s2, s3, s4, s5, s6, e5, h⟩ := ob6 h
  unfold f_X6_empty at e5
  obtain ⟨b5, -, e5⟩ := ob1 e5
  obtain ⟨t1, t2, e6, e5⟩ := ob2 e5
  unfold f_X2_clear at e6
  cases e6
  cases e5
  obtain ⟨l', p', k', b', w1, w2, -⟩ := bd_ok (y1 := lan) (y2 := pos) (y3 := rom) (y4 := gp) (y5 := plc) (y6 := pkd) (plot := plot) (ppc := ppc) (pmk := pmk) (pbd := pbd) l1 l2 p1 p2 g1 g2 (by grind) c1
  rw [w1] at h
  simp only [bnd10, Option.bind_some] at h
  cases h
  exact ⟨rfl, rfl, rfl, rfl, rfl, rfl, rfl, rfl, rfl, rfl, fun i i0 i1 => (w2 i i0 i1).2.2⟩
theorem x_addProduct {acts : Int32} {ns : Int32} {hk : Nat} {st : Nat → StT} {tod : Int32} {prods : Int32} {icnt : Int32} {itm : Nat → Int32} {bks : Nat → Int32} {trm : Nat → Int32} {lan : Int32} {pos : Int32} {rom : Int32} {gp : Int32} {plc : Int32} {pkd : Int64} {plot : Nat → Int32} {ppc : Nat → Int32} {pmk : Nat → Int32} {pbd : Nat → Int32} {lcn : Int32} {lpr : Nat → Int32} {lla : Nat → Int32} {lco : Nat → Int32} {lst : Nat → Int32} {lbl : Nat → Int32} {ocn : Int32} {gif : Int32} {ocu : Nat → Int32} {opr : Nat → Int32} {oop : Nat → Int32} {odu : Nat → Int32} {oli : Nat → Int32} {obd : Nat → Int32} {oha : Nat → Int32} {ost : Nat → Int32} {r : Except String Int32} {acts' : Int32} {ns' : Int32} {hk' : Nat} {st' : Nat → StT} {prods' : Int32} (hp : prods < 6) (h : f_X7_addProduct acts ns hk st tod prods icnt itm bks trm lan pos rom gp plc pkd plot ppc pmk pbd lcn lpr lla lco lst lbl ocn gif ocu opr oop odu oli obd oha ost = some (r, acts', ns', hk', st', prods')) : r = .ok prods ∧ prods' = prods + 1 := by
  unfold f_X7_addProduct at h
  rw [if_neg (by grind)] at h
  unfold f_X7_addProduct_J17 at h
  obtain ⟨r2, e2, h⟩ := ob1 h
  have e2 := ns_1 one_ne e2
  subst e2
  have h := mx_o h
  try dsimp only at h
  obtain ⟨q1, q2, q3, q4, -, h⟩ := ob4 h
  cases h
  exact ⟨by congr 1; grind, rfl⟩
theorem x_set {v1 v2 v3 v4 plc : Int32} {plot ppc pmk plot' ppc' pmk' : Nat → Int32} (h : f_X5_set v1 v2 v3 v4 plc plot ppc pmk = some (plot', ppc', pmk')) : ∀ i : Int32, 0 ≤ i → ix pmk' i = ix pmk i ∨ ix pmk' i = v4 := by
  intro i i0
  unfold f_X5_set at h
  obtain ⟨e, e1, h⟩ := ob1 h
  try dsimp only at h
  have key : ∀ {t1 t2 : Int32}, f_X5_set_J22 v1 v3 v4 t1 t2 plc plot ppc pmk = some (plot', ppc', pmk') → ix pmk' i = ix pmk i ∨ ix pmk' i = v4 := by
    intro t1 t2 hh
    unfold f_X5_set_J22 at hh
    obtain ⟨_, hh⟩ := ob_d hh
    obtain ⟨_, hh⟩ := ob_d hh
    obtain ⟨_, hh⟩ := ob_d hh
    cases hh
    unfold ix upd
    split
    · exact Or.inr rfl
    · exact Or.inl rfl
  split at h
  · cases h; exact Or.inl rfl
  · split at h
    · exact key h
    · exact key h
theorem x_put {v1 v2 v3 rom plc : Int32} {plot ppc pmk pbd plot' ppc' pmk' : Nat → Int32} (h : f_X5_putAway v1 v2 v3 rom plc plot ppc pmk pbd = some (plot', ppc', pmk')) : ∀ i : Int32, 0 ≤ i → ix pmk' i = ix pmk i ∨ ix pmk' i = v3 := by
  unfold f_X5_putAway at h
  obtain ⟨a, b, c, e1, h⟩ := ob3 h
  cases h
  refine lp_inv (fun z => ∀ i : Int32, 0 ≤ i → ix z.2.2.2.2 i = ix pmk i ∨ ix z.2.2.2.2 i = v3) (fun z => ∀ i : Int32, 0 ≤ i → ix z.2.2 i = ix pmk i ∨ ix z.2.2 i = v3) ?_ ?_ fu _ _ (fun i i0 => Or.inl rfl) e1
  · rintro ⟨n4, n5, l, p, k⟩ t' hi hg
    dsimp only at hi hg
    unfold f_X5_putAway_L6 at hg
    split at hg
    · cases hg
    · split at hg
      · cases hg
      · obtain ⟨_, hg⟩ := ob_d hg
        obtain ⟨q, -, hg⟩ := ob1 hg
        try dsimp only at hg
        split at hg
        · unfold f_X5_putAway_L6_J66 at hg; cases hg; exact hi
        · obtain ⟨o9, o10, o11, e9, hg⟩ := ob3 hg
          unfold f_X5_putAway_L6_J66 at hg
          cases hg
          intro i i0
          dsimp only
          rcases x_set e9 i i0 with e | e
          · rw [e]; exact hi i i0
          · exact Or.inr e
  · rintro ⟨n4, n5, l, p, k⟩ d hi hg
    dsimp only at hi hg
    unfold f_X5_putAway_L6 at hg
    split at hg
    · cases hg; exact hi
    · split at hg
      · cases hg; exact hi
      · obtain ⟨_, hg⟩ := ob_d hg
        obtain ⟨q, -, hg⟩ := ob1 hg
        try dsimp only at hg
        split at hg
        · unfold f_X5_putAway_L6_J66 at hg; cases hg
        · obtain ⟨o9, o10, o11, e9, hg⟩ := ob3 hg
          unfold f_X5_putAway_L6_J66 at hg
          cases hg
theorem x_comeIn {v1 : Int32} {v2 : Int32} {v3 : Int32} {v4 : Int32} {acts : Int32} {ns : Int32} {hk : Nat} {st : Nat → StT} {tod : Int32} {prods : Int32} {icnt : Int32} {itm : Nat → Int32} {bks : Nat → Int32} {trm : Nat → Int32} {lan : Int32} {pos : Int32} {rom : Int32} {gp : Int32} {plc : Int32} {pkd : Int64} {plot : Nat → Int32} {ppc : Nat → Int32} {pmk : Nat → Int32} {pbd : Nat → Int32} {lcn : Int32} {lpr : Nat → Int32} {lla : Nat → Int32} {lco : Nat → Int32} {lst : Nat → Int32} {lbl : Nat → Int32} {ocn : Int32} {gif : Int32} {ocu : Nat → Int32} {opr : Nat → Int32} {oop : Nat → Int32} {odu : Nat → Int32} {oli : Nat → Int32} {obd : Nat → Int32} {oha : Nat → Int32} {ost : Nat → Int32} {r : Except String Int32} {acts' : Int32} {ns' : Int32} {hk' : Nat} {st' : Nat → StT} {bks' : Nat → Int32} {plot' : Nat → Int32} {ppc' : Nat → Int32} {pmk' : Nat → Int32} {lcn' : Int32} {lpr' : Nat → Int32} {lla' : Nat → Int32} {lco' : Nat → Int32} {lst' : Nat → Int32} {lbl' : Nat → Int32} (a1 : 0 ≤ v1) (a2 : v1 < prods) (b1 : 1 ≤ v2) (b2 : v2 ≤ 100) (c1 : tod ≤ v3) (c2 : v3 ≤ 2556) (d1 : 0 ≤ v4) (d2 : v4 ≤ 9999) (l0 : 0 ≤ lcn) (l1 : lcn < 24) (p0 : 0 ≤ plc) (p1 : plc ≤ 48) (r1 : 1 ≤ rom) (r2 : rom ≤ 20) (hf : v2 ≤ rom * frs plc ppc) (h : f_X7_comeIn v1 v2 v3 v4 acts ns hk st tod prods icnt itm bks trm lan pos rom gp plc pkd plot ppc pmk pbd lcn lpr lla lco lst lbl ocn gif ocu opr oop odu oli obd oha ost = some (r, acts', ns', hk', st', bks', plot', ppc', pmk', lcn', lpr', lla', lco', lst', lbl')) : r = .ok lcn ∧ lcn' = lcn + 1 ∧ lst' = upd lst lcn.toNatClampNeg 0 ∧ ∀ i : Int32, 0 ≤ i → ix pmk' i = ix pmk i ∨ ix pmk' i = 1 := by
  unfold f_X7_comeIn at h
  obtain ⟨r11, e11, h⟩ := ob1 h
  rw [n_needProduct] at e11
  have e11 := ok_1 ⟨a1, a2⟩ e11
  subst e11
  have h := mx_o h
  try dsimp only at h
  obtain ⟨r12, e12, h⟩ := ob1 h
  have e12 := nr_1 b1 b2 e12
  subst e12
  have h := mx_o h
  try dsimp only at h
  obtain ⟨r13, e13, h⟩ := ob1 h
  have e13 := nr_1 c1 c2 e13
  subst e13
  have h := mx_o h
  try dsimp only at h
  obtain ⟨r14, e14, h⟩ := ob1 h
  have e14 := nr_1 d1 d2 e14
  subst e14
  have h := mx_o h
  try dsimp only at h
  rw [if_neg (by grind)] at h
  unfold f_X7_comeIn_J55 at h
  obtain ⟨r15, e15, h⟩ := ob1 h
  have e15 := ns_1 one_ne e15
  subst e15
  have h := mx_o h
  try dsimp only at h
  obtain ⟨f1, f2⟩ := frs_rng (ppc := ppc) p0 p1
  obtain ⟨k, k1, k2⟩ := n_room (fr := frs plc ppc) b1 b2 r1 r2 (by rw [i_le] at f1; exact f1) (by rw [i_le] at f2; exact f2)
  rw [k1, frs_sum p0 p1] at h
  simp only [bnd1, Option.bind_some] at h
  rw [if_neg (fun z => absurd (k2.mp z) (by grind))] at h
  unfold f_X7_comeIn_J87 at h
  obtain ⟨r16, e16, h⟩ := ob1 h
  have e16 := ns_1 one_ne e16
  subst e16
  have h := mx_o h
  try dsimp only at h
  obtain ⟨q1, q2, q3, q4, -, h⟩ := ob4 h
  obtain ⟨s1, s2, s3, s4, s5, s6, s7, e7, h⟩ := ob7 h
  obtain ⟨t1, t2, t3, e8, h⟩ := ob3 h
  obtain ⟨_, h⟩ := ob_d h
  obtain ⟨_, h⟩ := ob_d h
  cases h
  unfold f_X1_add at e7
  rw [if_pos l1] at e7
  obtain ⟨m1, m2, -, e7⟩ := ob2 e7
  obtain ⟨_, e7⟩ := ob_d e7
  obtain ⟨_, e7⟩ := ob_d e7
  obtain ⟨_, e7⟩ := ob_d e7
  obtain ⟨_, e7⟩ := ob_d e7
  obtain ⟨_, e7⟩ := ob_d e7
  cases e7
  exact ⟨by congr 1; grind, rfl, rfl, x_put e8⟩
theorem x_order {v1 : Int32} {v2 : Int32} {v3 : Int32} {v4 : Int32} {v5 : Int32} {acts : Int32} {ns : Int32} {hk : Nat} {st : Nat → StT} {tod : Int32} {prods : Int32} {icnt : Int32} {itm : Nat → Int32} {bks : Nat → Int32} {trm : Nat → Int32} {lan : Int32} {pos : Int32} {rom : Int32} {gp : Int32} {plc : Int32} {pkd : Int64} {plot : Nat → Int32} {ppc : Nat → Int32} {pmk : Nat → Int32} {pbd : Nat → Int32} {lcn : Int32} {lpr : Nat → Int32} {lla : Nat → Int32} {lco : Nat → Int32} {lst : Nat → Int32} {lbl : Nat → Int32} {ocn : Int32} {gif : Int32} {ocu : Nat → Int32} {opr : Nat → Int32} {oop : Nat → Int32} {odu : Nat → Int32} {oli : Nat → Int32} {obd : Nat → Int32} {oha : Nat → Int32} {ost : Nat → Int32} {r : Except String Int32} {acts' : Int32} {ns' : Int32} {hk' : Nat} {st' : Nat → StT} {ocn' : Int32} {ocu' : Nat → Int32} {opr' : Nat → Int32} {oop' : Nat → Int32} {odu' : Nat → Int32} {oli' : Nat → Int32} {obd' : Nat → Int32} {oha' : Nat → Int32} {ost' : Nat → Int32} (a1 : 0 ≤ v1) (a2 : v1 < 8) (b1 : 0 ≤ v2) (b2 : v2 < prods) (c1 : 1 ≤ v3) (c2 : v3 ≤ 50) (d1 : tod ≤ v4) (d2 : v4 ≤ 2556) (e1 : 0 ≤ v5) (e2 : v5 ≤ 400) (l0 : 0 ≤ ocn) (l1 : ocn < 40) (h : f_X7_order v1 v2 v3 v4 v5 acts ns hk st tod prods icnt itm bks trm lan pos rom gp plc pkd plot ppc pmk pbd lcn lpr lla lco lst lbl ocn gif ocu opr oop odu oli obd oha ost = some (r, acts', ns', hk', st', ocn', ocu', opr', oop', odu', oli', obd', oha', ost')) : r = .ok ocn ∧ ocn' = ocn + 1 ∧ oop' = upd oop ocn.toNatClampNeg v3 ∧ odu' = upd odu ocn.toNatClampNeg v4 ∧ oli' = upd oli ocn.toNatClampNeg v5 ∧ (∀ m : Int32, 0 ≤ m → m < 24 → ix oha' (ocn * 24 + m) = 0) ∧ ∀ n m : Int32, 0 ≤ n → n < 40 → n ≠ ocn → 0 ≤ m → m < 24 → ix oha' (n * 24 + m) = ix oha (n * 24 + m) := by
  unfold f_X7_order at h
  rw [if_neg (by grind), if_pos a2] at h
  obtain ⟨r11, e11, h⟩ := ob1 h
  rw [n_needProduct] at e11
  have e11 := ok_1 ⟨b1, b2⟩ e11
  subst e11
  have h := mx_o h
  try dsimp only at h
  obtain ⟨r12, e12, h⟩ := ob1 h
  have e12 := nr_1 c1 c2 e12
  subst e12
  have h := mx_o h
  try dsimp only at h
  obtain ⟨r13, e13, h⟩ := ob1 h
  have e13 := nr_1 d1 d2 e13
  subst e13
  have h := mx_o h
  try dsimp only at h
  obtain ⟨r14, e14, h⟩ := ob1 h
  have e14 := nr_1 e1 e2 e14
  subst e14
  have h := mx_o h
  try dsimp only at h
  rw [if_neg (by grind)] at h
  unfold f_X7_order_J76 at h
  obtain ⟨r15, e15, h⟩ := ob1 h
  have e15 := ns_1 one_ne e15
  subst e15
  have h := mx_o h
  try dsimp only at h
  obtain ⟨q1, q2, q3, q4, -, h⟩ := ob4 h
  obtain ⟨s1, s2, s3, s4, s5, s6, s7, s8, s9, s10, e7, h⟩ := ob10 h
  cases h
  unfold f_X2_add at e7
  rw [if_pos l1] at e7
  obtain ⟨m1, m2, -, e7⟩ := ob2 e7
  obtain ⟨_, e7⟩ := ob_d e7
  obtain ⟨_, e7⟩ := ob_d e7
  obtain ⟨_, e7⟩ := ob_d e7
  obtain ⟨_, e7⟩ := ob_d e7
  obtain ⟨_, e7⟩ := ob_d e7
  obtain ⟨_, e7⟩ := ob_d e7
  obtain ⟨z, z1, z2, z3⟩ := zr_loop (a1 := upd ocu ocn.toNatClampNeg v1) (a2 := upd opr ocn.toNatClampNeg v2) (a3 := upd oop ocn.toNatClampNeg v3) (a4 := upd odu ocn.toNatClampNeg v4) (a5 := upd oli ocn.toNatClampNeg v5) (a6 := upd m2 m1.toNatClampNeg ocn) (had := oha) (st := ost) l0 l1
  rw [z1] at e7
  simp only [bnd2, Option.bind_some] at e7
  cases e7
  exact ⟨by congr 1; grind, rfl, rfl, rfl, rfl, fun m m0 m1 => (z2 m m0 m1).1, fun n m n0 n1 n2 m0 m1 => (z3 n m n0 n1 n2 m0 m1).1⟩
theorem x_hold {v1 : Int32} {v2 : Int32} {acts : Int32} {ns : Int32} {hk : Nat} {st : Nat → StT} {tod : Int32} {prods : Int32} {icnt : Int32} {itm : Nat → Int32} {bks : Nat → Int32} {trm : Nat → Int32} {lan : Int32} {pos : Int32} {rom : Int32} {gp : Int32} {plc : Int32} {pkd : Int64} {plot : Nat → Int32} {ppc : Nat → Int32} {pmk : Nat → Int32} {pbd : Nat → Int32} {lcn : Int32} {lpr : Nat → Int32} {lla : Nat → Int32} {lco : Nat → Int32} {lst : Nat → Int32} {lbl : Nat → Int32} {ocn : Int32} {gif : Int32} {ocu : Nat → Int32} {opr : Nat → Int32} {oop : Nat → Int32} {odu : Nat → Int32} {oli : Nat → Int32} {obd : Nat → Int32} {oha : Nat → Int32} {ost : Nat → Int32} {r : Except String Int32} {acts' : Int32} {ns' : Int32} {hk' : Nat} {st' : Nat → StT} {lst' : Nat → Int32} (a1 : 0 ≤ v1) (a2 : v1 < lcn) (l1 : lcn ≤ 24) (hs : ix lst v1 = 0) (h2 : v2 = 1) (h : f_X7_hold v1 v2 acts ns hk st tod prods icnt itm bks trm lan pos rom gp plc pkd plot ppc pmk pbd lcn lpr lla lco lst lbl ocn gif ocu opr oop odu oli obd oha ost = some (r, acts', ns', hk', st', lst')) : r = .ok 0 ∧ lst' = upd lst v1.toNatClampNeg 1 := by
  subst h2
  have hs' : lst v1.toNatClampNeg = 0 := hs
  unfold f_X7_hold at h
  obtain ⟨r11, e11, h⟩ := ob1 h
  rw [n_needLot _ _ l1] at e11
  have e11 := ok_1 ⟨a1, a2⟩ e11
  subst e11
  have h := mx_o h
  try dsimp only at h
  obtain ⟨_, h⟩ := ob_d h
  rw [hs', if_neg (by decide)] at h
  unfold f_X7_hold_J26 at h
  obtain ⟨r15, e15, h⟩ := ob1 h
  have e15 := ns_1 one_ne e15
  subst e15
  have h := mx_o h
  try dsimp only at h
  obtain ⟨q1, q2, q3, q4, -, h⟩ := ob4 h
  obtain ⟨_, h⟩ := ob_d h
  rw [hs', if_neg (by decide)] at h
  unfold f_X7_hold_J54 at h
  rw [if_neg one_ne] at h
  unfold f_X7_hold_J75 at h
  obtain ⟨_, h⟩ := ob_d h
  rw [gb_ok (Or.inl rfl)] at h
  cases h
  exact ⟨rfl, rfl⟩
theorem x_passDays {v1 : Int32} {acts : Int32} {ns : Int32} {hk : Nat} {st : Nat → StT} {tod : Int32} {prods : Int32} {icnt : Int32} {itm : Nat → Int32} {bks : Nat → Int32} {trm : Nat → Int32} {lan : Int32} {pos : Int32} {rom : Int32} {gp : Int32} {plc : Int32} {pkd : Int64} {plot : Nat → Int32} {ppc : Nat → Int32} {pmk : Nat → Int32} {pbd : Nat → Int32} {lcn : Int32} {lpr : Nat → Int32} {lla : Nat → Int32} {lco : Nat → Int32} {lst : Nat → Int32} {lbl : Nat → Int32} {ocn : Int32} {gif : Int32} {ocu : Nat → Int32} {opr : Nat → Int32} {oop : Nat → Int32} {odu : Nat → Int32} {oli : Nat → Int32} {obd : Nat → Int32} {oha : Nat → Int32} {ost : Nat → Int32} {r : Except String Int32} {acts' : Int32} {ns' : Int32} {hk' : Nat} {st' : Nat → StT} {tod' : Int32} {bks' : Nat → Int32} {plot' : Nat → Int32} {ppc' : Nat → Int32} {pmk' : Nat → Int32} (a1 : 1 ≤ v1) (a2 : v1 ≤ 400) (t0 : 0 ≤ tod) (t1 : tod + v1 ≤ 2556) (p1 : 1 ≤ plc) (p2 : plc ≤ 48) (l0 : 0 ≤ lcn) (l1 : lcn ≤ 24) (h : f_X7_passDays v1 acts ns hk st tod prods icnt itm bks trm lan pos rom gp plc pkd plot ppc pmk pbd lcn lpr lla lco lst lbl ocn gif ocu opr oop odu oli obd oha ost = some (r, acts', ns', hk', st', tod', bks', plot', ppc', pmk')) : ∃ sc, r = .ok sc ∧ tod' = tod + v1 ∧ CLR plc (fun m => 1 ≤ ix ppc m ∧ 0 ≤ ix plot m ∧ ix plot m < lcn ∧ ix lla (ix plot m) < tod + v1) plot ppc pmk plot' ppc' pmk' ∧ isum (ix ppc') plc.toNatClampNeg = isum (ix ppc) plc.toNatClampNeg - sc := by
  unfold f_X7_passDays at h
  obtain ⟨r11, e11, h⟩ := ob1 h
  have e11 := nr_1 a1 a2 e11
  subst e11
  have h := mx_o h
  try dsimp only at h
  rw [if_neg (by grind)] at h
  unfold f_X7_passDays_J28 at h
  obtain ⟨r15, e15, h⟩ := ob1 h
  have e15 := ns_1 one_ne e15
  subst e15
  have h := mx_o h
  try dsimp only at h
  obtain ⟨q1, q2, q3, q4, -, h⟩ := ob4 h
  obtain ⟨m1, m2, m3, m4, e7, h⟩ := ob4 h
  obtain ⟨_, h⟩ := ob_d h
  obtain ⟨_, h⟩ := ob_d h
  obtain ⟨z, z1, z2, z3⟩ := s_old (T := tod + v1) (plc := plc) (lcn := lcn) (plot := plot) (ppc := ppc) (pmk := pmk) (lla := lla) p1 p2 l0 l1 (hand_sum (by grind) p2) (fun z : Int32 × Int32 × (Nat → Int32) × (Nat → Int32) × (Nat → Int32) => f_X7_passDays_L52 q1 q2 q3 q4 (tod + v1) prods icnt itm bks trm lan pos rom gp plc pkd pbd lcn lpr lla lco lst lbl ocn gif ocu opr oop odu oli obd oha ost z.1 z.2.1 z.2.2.1 z.2.2.2.1 z.2.2.2.2) (fun e n a b c => rfl)
  rw [z1] at e7
  cases e7
  cases h
  refine ⟨_, rfl, rfl, z2, ?_⟩
  rw [hand_sum (by grind) p2] at z3
  exact Option.some.inj z3
theorem x_recall {v1 : Int32} {acts : Int32} {ns : Int32} {hk : Nat} {st : Nat → StT} {tod : Int32} {prods : Int32} {icnt : Int32} {itm : Nat → Int32} {bks : Nat → Int32} {trm : Nat → Int32} {lan : Int32} {pos : Int32} {rom : Int32} {gp : Int32} {plc : Int32} {pkd : Int64} {plot : Nat → Int32} {ppc : Nat → Int32} {pmk : Nat → Int32} {pbd : Nat → Int32} {lcn : Int32} {lpr : Nat → Int32} {lla : Nat → Int32} {lco : Nat → Int32} {lst : Nat → Int32} {lbl : Nat → Int32} {ocn : Int32} {gif : Int32} {ocu : Nat → Int32} {opr : Nat → Int32} {oop : Nat → Int32} {odu : Nat → Int32} {oli : Nat → Int32} {obd : Nat → Int32} {oha : Nat → Int32} {ost : Nat → Int32} {r : Except String Int32} {acts' : Int32} {ns' : Int32} {hk' : Nat} {st' : Nat → StT} {bks' : Nat → Int32} {plot' : Nat → Int32} {ppc' : Nat → Int32} {pmk' : Nat → Int32} {lst' : Nat → Int32} (a1 : 0 ≤ v1) (a2 : v1 < lcn) (l1 : lcn ≤ 24) (hs : ix lst v1 ≠ 2) (p1 : 1 ≤ plc) (p2 : plc ≤ 48) (h : f_X7_recall v1 acts ns hk st tod prods icnt itm bks trm lan pos rom gp plc pkd plot ppc pmk pbd lcn lpr lla lco lst lbl ocn gif ocu opr oop odu oli obd oha ost = some (r, acts', ns', hk', st', bks', plot', ppc', pmk', lst')) : r = .ok (pof plc plot ppc v1) ∧ lst' = upd lst v1.toNatClampNeg 2 ∧ CLR plc (fun m => 1 ≤ ix ppc m ∧ ix plot m = v1) plot ppc pmk plot' ppc' pmk' := by
  have hs' : ¬ lst v1.toNatClampNeg = 2 := hs
  unfold f_X7_recall at h
  obtain ⟨r11, e11, h⟩ := ob1 h
  rw [n_needLot _ _ l1] at e11
  have e11 := ok_1 ⟨a1, a2⟩ e11
  subst e11
  have h := mx_o h
  try dsimp only at h
  obtain ⟨_, h⟩ := ob_d h
  rw [if_neg hs'] at h
  unfold f_X7_recall_J26 at h
  obtain ⟨r15, e15, h⟩ := ob1 h
  have e15 := ns_1 one_ne e15
  subst e15
  have h := mx_o h
  try dsimp only at h
  obtain ⟨q1, q2, q3, q4, -, h⟩ := ob4 h
  obtain ⟨_, h⟩ := ob_d h
  obtain ⟨e, l', p', k', s1, s2, -, s4⟩ := s_scrapLot (l := v1) (plot := plot) (pmk := pmk) p1 p2 (hand_sum (f := ppc) (by grind) p2)
  rw [s1] at h
  simp only [bnd4, Option.bind_some] at h
  obtain ⟨_, h⟩ := ob_d h
  obtain ⟨_, h⟩ := ob_d h
  rw [pof_sum (by grind) p2] at s4
  cases s4
  cases h
  exact ⟨rfl, rfl, s2⟩
theorem x_count {v1 : Int32} {v2 : Int32} {acts : Int32} {ns : Int32} {hk : Nat} {st : Nat → StT} {tod : Int32} {prods : Int32} {icnt : Int32} {itm : Nat → Int32} {bks : Nat → Int32} {trm : Nat → Int32} {lan : Int32} {pos : Int32} {rom : Int32} {gp : Int32} {plc : Int32} {pkd : Int64} {plot : Nat → Int32} {ppc : Nat → Int32} {pmk : Nat → Int32} {pbd : Nat → Int32} {lcn : Int32} {lpr : Nat → Int32} {lla : Nat → Int32} {lco : Nat → Int32} {lst : Nat → Int32} {lbl : Nat → Int32} {ocn : Int32} {gif : Int32} {ocu : Nat → Int32} {opr : Nat → Int32} {oop : Nat → Int32} {odu : Nat → Int32} {oli : Nat → Int32} {obd : Nat → Int32} {oha : Nat → Int32} {ost : Nat → Int32} {r : Except String Int32} {acts' : Int32} {ns' : Int32} {hk' : Nat} {st' : Nat → StT} {bks' : Nat → Int32} {plot' : Nat → Int32} {ppc' : Nat → Int32} {pmk' : Nat → Int32} (a1 : 0 ≤ v1) (a2 : v1 < plc) (p2 : plc ≤ 48) (b1 : 0 ≤ v2) (b2 : v2 ≤ rom) (hn : ix ppc v1 ≠ 0) (h : f_X7_count v1 v2 acts ns hk st tod prods icnt itm bks trm lan pos rom gp plc pkd plot ppc pmk pbd lcn lpr lla lco lst lbl ocn gif ocu opr oop odu oli obd oha ost = some (r, acts', ns', hk', st', bks', plot', ppc', pmk')) : r = .ok (v2 - ix ppc v1) ∧ plot' = upd plot v1.toNatClampNeg (if v2 = 0 then -1 else ix plot v1) ∧ ppc' = upd ppc v1.toNatClampNeg v2 ∧ f_X7_remember acts ns hk st tod prods icnt itm bks trm lan pos rom gp plc pkd plot ppc pmk pbd lcn lpr lla lco lst lbl ocn gif ocu opr oop odu oli obd oha ost = some (acts', ns', hk', st') := by
  unfold f_X7_count at h
  obtain ⟨r11, e11, h⟩ := ob1 h
  rw [n_needPlace _ _ p2] at e11
  have e11 := ok_1 ⟨a1, a2⟩ e11
  subst e11
  have h := mx_o h
  try dsimp only at h
  obtain ⟨r12, e12, h⟩ := ob1 h
  have e12 := nr_1 b1 b2 e12
  subst e12
  have h := mx_o h
  try dsimp only at h
  rw [n_isFree5 _ _ _ p2 a1 a2, if_neg hn] at h
  simp only [bnd1, Option.bind_some] at h
  rw [if_pos trivial] at h
  unfold f_X7_count_J39 at h
  obtain ⟨r15, e15, h⟩ := ob1 h
  have e15 := ns_1 one_ne e15
  subst e15
  have h := mx_o h
  try dsimp only at h
  obtain ⟨q1, q2, q3, q4, e4, h⟩ := ob4 h
  obtain ⟨_, h⟩ := ob_d h
  obtain ⟨_, h⟩ := ob_d h
  rw [n_set p2 a1 a2] at h
  simp only [bnd3, Option.bind_some] at h
  split at h
  all_goals
    obtain ⟨_, h⟩ := ob_d h
    obtain ⟨_, h⟩ := ob_d h
    cases h
    exact ⟨rfl, rfl, rfl, e4⟩
theorem x_clearItems {acts : Int32} {ns : Int32} {hk : Nat} {st : Nat → StT} {tod : Int32} {prods : Int32} {icnt : Int32} {itm : Nat → Int32} {bks : Nat → Int32} {trm : Nat → Int32} {lan : Int32} {pos : Int32} {rom : Int32} {gp : Int32} {plc : Int32} {pkd : Int64} {plot : Nat → Int32} {ppc : Nat → Int32} {pmk : Nat → Int32} {pbd : Nat → Int32} {lcn : Int32} {lpr : Nat → Int32} {lla : Nat → Int32} {lco : Nat → Int32} {lst : Nat → Int32} {lbl : Nat → Int32} {ocn : Int32} {gif : Int32} {ocu : Nat → Int32} {opr : Nat → Int32} {oop : Nat → Int32} {odu : Nat → Int32} {oli : Nat → Int32} {obd : Nat → Int32} {oha : Nat → Int32} {ost : Nat → Int32} {r : Int32} {acts' : Int32} {ns' : Int32} {hk' : Nat} {st' : Nat → StT} {icnt' : Int32}  (h : f_X7_clearItems acts ns hk st tod prods icnt itm bks trm lan pos rom gp plc pkd plot ppc pmk pbd lcn lpr lla lco lst lbl ocn gif ocu opr oop odu oli obd oha ost = some (r, acts', ns', hk', st', icnt')) : icnt' = 0 := by
  unfold f_X7_clearItems at h
  obtain ⟨q1, q2, q3, q4, -, h⟩ := ob4 h
  cases h
  rfl
theorem x_addItem {v1 : Int32} {acts : Int32} {ns : Int32} {hk : Nat} {st : Nat → StT} {tod : Int32} {prods : Int32} {icnt : Int32} {itm : Nat → Int32} {bks : Nat → Int32} {trm : Nat → Int32} {lan : Int32} {pos : Int32} {rom : Int32} {gp : Int32} {plc : Int32} {pkd : Int64} {plot : Nat → Int32} {ppc : Nat → Int32} {pmk : Nat → Int32} {pbd : Nat → Int32} {lcn : Int32} {lpr : Nat → Int32} {lla : Nat → Int32} {lco : Nat → Int32} {lst : Nat → Int32} {lbl : Nat → Int32} {ocn : Int32} {gif : Int32} {ocu : Nat → Int32} {opr : Nat → Int32} {oop : Nat → Int32} {odu : Nat → Int32} {oli : Nat → Int32} {obd : Nat → Int32} {oha : Nat → Int32} {ost : Nat → Int32} {r : Except String Int32} {acts' : Int32} {ns' : Int32} {hk' : Nat} {st' : Nat → StT} {icnt' : Int32} {itm' : Nat → Int32} (a1 : 1 ≤ v1) (a2 : v1 ≤ 20) (b0 : 0 ≤ icnt) (b1 : icnt < 8) (h : f_X7_addItem v1 acts ns hk st tod prods icnt itm bks trm lan pos rom gp plc pkd plot ppc pmk pbd lcn lpr lla lco lst lbl ocn gif ocu opr oop odu oli obd oha ost = some (r, acts', ns', hk', st', icnt', itm')) : r = .ok (icnt + 1) ∧ icnt' = icnt + 1 ∧ itm' = upd itm icnt.toNatClampNeg v1 := by
  unfold f_X7_addItem at h
  obtain ⟨r11, e11, h⟩ := ob1 h
  have e11 := nr_1 a1 a2 e11
  subst e11
  have h := mx_o h
  try dsimp only at h
  rw [if_neg (by grind)] at h
  unfold f_X7_addItem_J24 at h
  obtain ⟨r15, e15, h⟩ := ob1 h
  have e15 := ns_1 one_ne e15
  subst e15
  have h := mx_o h
  try dsimp only at h
  obtain ⟨q1, q2, q3, q4, -, h⟩ := ob4 h
  obtain ⟨_, h⟩ := ob_d h
  cases h
  exact ⟨rfl, rfl, rfl⟩
theorem x_setWants {v1 : Int32} {v2 : Int32} {v3 : Int32} {v4 : Int32} {v5 : Int32} {acts : Int32} {ns : Int32} {hk : Nat} {st : Nat → StT} {tod : Int32} {prods : Int32} {icnt : Int32} {itm : Nat → Int32} {bks : Nat → Int32} {trm : Nat → Int32} {lan : Int32} {pos : Int32} {rom : Int32} {gp : Int32} {plc : Int32} {pkd : Int64} {plot : Nat → Int32} {ppc : Nat → Int32} {pmk : Nat → Int32} {pbd : Nat → Int32} {lcn : Int32} {lpr : Nat → Int32} {lla : Nat → Int32} {lco : Nat → Int32} {lst : Nat → Int32} {lbl : Nat → Int32} {ocn : Int32} {gif : Int32} {ocu : Nat → Int32} {opr : Nat → Int32} {oop : Nat → Int32} {odu : Nat → Int32} {oli : Nat → Int32} {obd : Nat → Int32} {oha : Nat → Int32} {ost : Nat → Int32} {r : Except String Int32} {acts' : Int32} {ns' : Int32} {hk' : Nat} {st' : Nat → StT} {trm' : Nat → Int32} (a1 : 0 ≤ v1) (b1 : v1 ≤ 9) (a2 : 0 ≤ v2) (b2 : v2 ≤ 9) (a3 : 0 ≤ v3) (b3 : v3 ≤ 9) (a4 : 0 ≤ v4) (b4 : v4 ≤ 9) (a5 : 0 ≤ v5) (b5 : v5 ≤ 9) (hs : v1 + v2 + v3 + v4 + v5 ≠ 0) (h : f_X7_setWants v1 v2 v3 v4 v5 acts ns hk st tod prods icnt itm bks trm lan pos rom gp plc pkd plot ppc pmk pbd lcn lpr lla lco lst lbl ocn gif ocu opr oop odu oli obd oha ost = some (r, acts', ns', hk', st', trm')) : r = .ok (v1 + v2 + v3 + v4 + v5) ∧ trm' = upd (upd (upd (upd (upd trm (0 : Int32).toNatClampNeg v1) (1 : Int32).toNatClampNeg v2) (2 : Int32).toNatClampNeg v3) (3 : Int32).toNatClampNeg v4) (4 : Int32).toNatClampNeg v5 := by
  unfold f_X7_setWants at h
  obtain ⟨r11, e11, h⟩ := ob1 h
  have e11 := nr_1 a1 b1 e11
  subst e11
  have h := mx_o h
  try dsimp only at h
  obtain ⟨r12, e12, h⟩ := ob1 h
  have e12 := nr_1 a2 b2 e12
  subst e12
  have h := mx_o h
  try dsimp only at h
  obtain ⟨r13, e13, h⟩ := ob1 h
  have e13 := nr_1 a3 b3 e13
  subst e13
  have h := mx_o h
  try dsimp only at h
  obtain ⟨r14, e14, h⟩ := ob1 h
  have e14 := nr_1 a4 b4 e14
  subst e14
  have h := mx_o h
  try dsimp only at h
  obtain ⟨r15, e15, h⟩ := ob1 h
  have e15 := nr_1 a5 b5 e15
  subst e15
  have h := mx_o h
  try dsimp only at h
  rw [if_neg hs] at h
  obtain ⟨q1, q2, q3, q4, -, h⟩ := ob4 h
  obtain ⟨_, h⟩ := ob_d h
  obtain ⟨_, h⟩ := ob_d h
  obtain ⟨_, h⟩ := ob_d h
  obtain ⟨_, h⟩ := ob_d h
  obtain ⟨_, h⟩ := ob_d h
  cases h
  exact ⟨rfl, rfl⟩
theorem x_setCosts {v1 : Int32} {v2 : Int32} {v3 : Int32} {v4 : Int32} {v5 : Int32} {acts : Int32} {ns : Int32} {hk : Nat} {st : Nat → StT} {tod : Int32} {prods : Int32} {icnt : Int32} {itm : Nat → Int32} {bks : Nat → Int32} {trm : Nat → Int32} {lan : Int32} {pos : Int32} {rom : Int32} {gp : Int32} {plc : Int32} {pkd : Int64} {plot : Nat → Int32} {ppc : Nat → Int32} {pmk : Nat → Int32} {pbd : Nat → Int32} {lcn : Int32} {lpr : Nat → Int32} {lla : Nat → Int32} {lco : Nat → Int32} {lst : Nat → Int32} {lbl : Nat → Int32} {ocn : Int32} {gif : Int32} {ocu : Nat → Int32} {opr : Nat → Int32} {oop : Nat → Int32} {odu : Nat → Int32} {oli : Nat → Int32} {obd : Nat → Int32} {oha : Nat → Int32} {ost : Nat → Int32} {r : Except String Int32} {acts' : Int32} {ns' : Int32} {hk' : Nat} {st' : Nat → StT} {trm' : Nat → Int32} (a1 : 0 ≤ v1) (b1 : v1 ≤ 99) (a2 : 0 ≤ v2) (b2 : v2 ≤ 20) (a3 : 0 ≤ v3) (b3 : v3 ≤ 20) (a4 : v2 + 1 ≤ v4) (b4 : v4 ≤ 60) (a5 : 0 ≤ v5) (b5 : v5 ≤ 20) (h : f_X7_setCosts v1 v2 v3 v4 v5 acts ns hk st tod prods icnt itm bks trm lan pos rom gp plc pkd plot ppc pmk pbd lcn lpr lla lco lst lbl ocn gif ocu opr oop odu oli obd oha ost = some (r, acts', ns', hk', st', trm')) : r = .ok (trm 9) ∧ trm' = upd (upd (upd (upd (upd trm (5 : Int32).toNatClampNeg v1) (6 : Int32).toNatClampNeg v2) (7 : Int32).toNatClampNeg v3) (8 : Int32).toNatClampNeg v4) (9 : Int32).toNatClampNeg v5 := by
  unfold f_X7_setCosts at h
  obtain ⟨r11, e11, h⟩ := ob1 h
  have e11 := nr_1 a1 b1 e11
  subst e11
  have h := mx_o h
  try dsimp only at h
  obtain ⟨r12, e12, h⟩ := ob1 h
  have e12 := nr_1 a2 b2 e12
  subst e12
  have h := mx_o h
  try dsimp only at h
  obtain ⟨r13, e13, h⟩ := ob1 h
  have e13 := nr_1 a3 b3 e13
  subst e13
  have h := mx_o h
  try dsimp only at h
  obtain ⟨r14, e14, h⟩ := ob1 h
  have e14 := nr_1 a4 b4 e14
  subst e14
  have h := mx_o h
  try dsimp only at h
  obtain ⟨r15, e15, h⟩ := ob1 h
  have e15 := nr_1 a5 b5 e15
  subst e15
  have h := mx_o h
  try dsimp only at h
  obtain ⟨q1, q2, q3, q4, -, h⟩ := ob4 h
  obtain ⟨_, h⟩ := ob_d h
  obtain ⟨_, h⟩ := ob_d h
  obtain ⟨_, h⟩ := ob_d h
  obtain ⟨_, h⟩ := ob_d h
  obtain ⟨_, h⟩ := ob_d h
  obtain ⟨_, h⟩ := ob_d h
  cases h
  exact ⟨rfl, rfl⟩
