theorem CLR.comp {plc : Int32} {P Q P' : Int32 → Prop} {a b c a1 b1 c1 a2 b2 c2 : Nat → Int32} (q : CLR plc P a b c a1 b1 c1) (r : CLR plc Q a1 b1 c1 a2 b2 c2) (h : ∀ n : Int32, 0 ≤ n → n < plc → (P' n ↔ P n ∨ Q n)) : CLR plc P' a b c a2 b2 c2 := by
  intro n x y
  have hh := h n x y
  rcases r n x y with ⟨k, y1⟩ | ⟨k, y1, y2, y3⟩
  · exact Or.inl ⟨hh.mpr (Or.inr k), y1⟩
  · rcases q n x y with ⟨g, x1, x2, x3⟩ | ⟨g, x1, x2, x3⟩
    · exact Or.inl ⟨hh.mpr (Or.inl g), y1.trans x1, y2.trans x2, y3.trans x3⟩
    · exact Or.inr ⟨fun z => (hh.mp z).elim g k, y1.trans x1, y2.trans x2, y3.trans x3⟩
/-- the class: every lot whose last day is past goes -/
theorem s_old {T plc lcn h : Int32} {plot ppc pmk lla : Nat → Int32} (h1 : 1 ≤ plc) (h2 : plc ≤ 48) (hl : 0 ≤ lcn) (hl2 : lcn ≤ 24) (hh : f_X5_piecesOnHand plc ppc = some h) (g : Int32 × Int32 × (Nat → Int32) × (Nat → Int32) × (Nat → Int32) → Option ((Int32 × Int32 × (Nat → Int32) × (Nat → Int32) × (Nat → Int32)) ⊕ (Int32 × (Nat → Int32) × (Nat → Int32) × (Nat → Int32))))
    (hg : ∀ e n a b c, g (e, n, a, b, c) = if lcn ≤ n then some (.inr (e, a, b, c)) else gd n 24 (if T ≤ lla n.toNatClampNeg then some (.inl (e, n + 1, a, b, c)) else bnd4 (f_X5_scrapLot n plc a b c) (fun r o1 o2 o3 => some (.inl (e + r, n + 1, o1, o2, o3))))) :
    ∃ r, loop g fu (0, 0, plot, ppc, pmk) = some r ∧ CLR plc (fun m => 1 ≤ ix ppc m ∧ 0 ≤ ix plot m ∧ ix plot m < lcn ∧ ix lla (ix plot m) < T) plot ppc pmk r.2.1 r.2.2.1 r.2.2.2 ∧ f_X5_piecesOnHand plc r.2.2.1 = some (h - r.1) := by
  refine lp_one (f := g) (fun s => 0 ≤ s.2.1 ∧ s.2.1 ≤ lcn ∧ CLR plc (fun m => 1 ≤ ix ppc m ∧ 0 ≤ ix plot m ∧ ix plot m < s.2.1 ∧ ix lla (ix plot m) < T) plot ppc pmk s.2.2.1 s.2.2.2.1 s.2.2.2.2 ∧ f_X5_piecesOnHand plc s.2.2.2.1 = some (h - s.1)) _ (fun z => msr z.2.1 lcn) ?_ fu _ ⟨by dsimp only; decide, by dsimp only; exact hl, CLR.no (fun m m1 m2 z => by dsimp only at z; grind), by dsimp only; rw [hh, Int32.sub_zero]⟩ (msr_fu (by dsimp only; decide) (by grind))
  rintro ⟨e, n, a, b, c⟩ ⟨g1, g2, g3, g4⟩
  dsimp only at g1 g2 g3 g4 ⊢
  rw [hg]
  by_cases hn : lcn ≤ n
  · refine Or.inr ⟨(e, a, b, c), by rw [if_pos hn], ?_, g4⟩
    refine g3.eqv (fun m m1 m2 => ?_)
    constructor
    · rintro ⟨z1, z2, z3, z4⟩; exact ⟨z1, z2, by grind, z4⟩
    · rintro ⟨z1, z2, z3, z4⟩; exact ⟨z1, z2, by grind, z4⟩
  · left
    have hn' : n < lcn := by grind
    rw [if_neg hn, gd_24 g1 (by grind)]
    have hx : lla n.toNatClampNeg = ix lla n := rfl
    rw [hx]
    by_cases hc : T ≤ ix lla n
    · refine ⟨(e, n + 1, a, b, c), by rw [if_pos hc], ⟨by dsimp only; grind, by dsimp only; grind, ?_, g4⟩, msr_lt hn'⟩
      refine g3.eqv (fun m m1 m2 => ?_)
      dsimp only
      constructor
      · rintro ⟨z1, z2, z3, z4⟩; exact ⟨z1, z2, by grind, z4⟩
      · rintro ⟨z1, z2, z3, z4⟩
        by_cases hm : ix plot m = n
        · rw [hm] at z4; exact absurd z4 (by grind)
        · exact ⟨z1, z2, by grind, z4⟩
    · obtain ⟨r, l1, p1, k1, s1, s2, s3, -⟩ := s_scrapLot (l := n) (plot := a) (pmk := c) h1 h2 g4
      refine ⟨(e + r, n + 1, l1, p1, k1), by rw [if_neg hc, s1]; rfl, ⟨by dsimp only; grind, by dsimp only; grind, ?_, ?_⟩, msr_lt hn'⟩
      · refine g3.comp s2 (fun m m1 m2 => ?_)
        dsimp only
        rcases g3 m m1 m2 with ⟨⟨x1, x2, x3, x4⟩, y1, y2, y3⟩ | ⟨x, y1, y2, y3⟩
        · exact ⟨fun _ => Or.inl ⟨x1, x2, x3, x4⟩, fun _ => ⟨x1, x2, by grind, x4⟩⟩
        · rw [y1, y2]
          constructor
          · rintro ⟨z1, z2, z3, z4⟩
            by_cases hm : ix plot m = n
            · exact Or.inr ⟨z1, hm⟩
            · exact Or.inl ⟨z1, z2, by grind, z4⟩
          · rintro (⟨z1, z2, z3, z4⟩ | ⟨z1, z2⟩)
            · exact ⟨z1, z2, by grind, z4⟩
            · exact ⟨z1, by grind, by grind, by rw [z2]; grind⟩
      · dsimp only; rw [s3]; congr 1; grind
/-- the model: a day -/
theorem s_day1 {plc rom lcn h y0 y1 y2 y3 y5 y6 T : Int32} {y4 : Nat → Int32} {plot ppc pmk lla w wb : Nat → Int32} {P : Int32 → Prop} (h1 : 1 ≤ plc) (h2 : plc ≤ 48) (hr : 1 ≤ rom) (hl2 : lcn ≤ 24) (hw : w 1 * w 2 = plc) (hP : QP plc rom lcn plot ppc pmk w) (hla : ∀ l : Int32, 0 ≤ l → l < lcn → ix w (231 + l) = ix lla l)
    (q : SCR plc rom lcn h plot ppc pmk w P wb) (hb : wb 0 = T) (hPT : ∀ m : Int32, 0 ≤ m → m < plc → P m → 1 ≤ ix ppc m ∧ ix lla (ix plot m) < T) :
    ∃ w', loop (fun z : Int32 × (Nat → Int32) => f_Y8_passDays_L77 y0 y1 y2 y3 y5 y6 y4 z.1 z.2) fu (0, wb) = some w' ∧ SCR plc rom lcn h plot ppc pmk w (fun m => 1 ≤ ix ppc m ∧ ix lla (ix plot m) < T) w' ∧ w' 0 = T := by
  refine lp_one (f := fun z : Int32 × (Nat → Int32) => f_Y8_passDays_L77 y0 y1 y2 y3 y5 y6 y4 z.1 z.2) (fun z => 0 ≤ z.1 ∧ z.1 ≤ plc ∧ SCR plc rom lcn h plot ppc pmk w (fun m => P m ∨ (m < z.1 ∧ 1 ≤ ix ppc m ∧ ix lla (ix plot m) < T)) z.2 ∧ z.2 0 = T) _ (fun z => msr z.1 plc) ?_ fu (0, wb) ⟨by dsimp only; decide, by dsimp only; grind, q.eqv (fun n a b => ⟨fun z => Or.inl z, fun z => z.elim id (fun y => absurd y.1 (by dsimp only; grind))⟩), hb⟩ (msr_fu (by dsimp only; decide) (by grind))
  rintro ⟨n, w'⟩ ⟨g1, g2, g3, g5⟩
  dsimp only at g1 g2 g3 g5 ⊢
  unfold f_Y8_passDays_L77
  rw [n_places, g3.wd hw]
  simp only [bnd1, Option.bind_some]
  by_cases hn : plc ≤ n
  · refine Or.inr ⟨w', by rw [if_pos hn], ?_⟩
    refine ⟨g3.eqv (fun m m1 m2 => ⟨fun z => z.elim (hPT m m1 m2) (fun y => y.2), fun z => Or.inr ⟨by grind, z⟩⟩), g5⟩
  · left
    have hn' : n < plc := by grind
    obtain ⟨y1, y2, y3, y4, y5, y6⟩ := hP n g1 hn'
    have same : ∀ (w2 : Nat → Int32), (¬ (1 ≤ ix ppc n ∧ ix lla (ix plot n) < T) ∨ P n) → w2 = w' → ∃ s', some (Sum.inl (n + 1, w')) = (some (Sum.inl s') : Option ((Int32 × (Nat → Int32)) ⊕ (Nat → Int32))) ∧ (0 ≤ s'.1 ∧ s'.1 ≤ plc ∧ SCR plc rom lcn h plot ppc pmk w (fun m => P m ∨ (m < s'.1 ∧ 1 ≤ ix ppc m ∧ ix lla (ix plot m) < T)) s'.2 ∧ s'.2 0 = T) ∧ msr s'.1 plc < msr n plc := by
      intro w2 hx _
      refine ⟨(n + 1, w'), rfl, ⟨by dsimp only; grind, by dsimp only; grind, ?_, g5⟩, msr_lt hn'⟩
      refine g3.eqv (fun m m1 m2 => ?_)
      dsimp only
      constructor
      · rintro (z | ⟨z1, z2⟩)
        · exact Or.inl z
        · exact Or.inr ⟨by grind, z2⟩
      · rintro (z | ⟨z1, z2⟩)
        · exact Or.inl z
        · by_cases hm : m = n
          · subst hm
            exact hx.elim (fun y => absurd z2 y) Or.inl
          · exact Or.inr ⟨by grind, z2⟩
    rw [if_neg hn, n_isFree n w' g1 (by grind)]
    simp only [Option.bind_some]
    unfold f_Y8_passDays_L77_J139
    by_cases hpn : P n
    · obtain ⟨b1, b2, b3, q1, q2, q3⟩ := g3
      have z : ix w' (63 + n) = 0 := by
        obtain ⟨-, t2, -⟩ := q1 n g1 hn'
        rcases q2 n g1 hn' with ⟨-, -, z2, -⟩ | ⟨z, -⟩
        · exact t2.trans z2
        · exact absurd (Or.inl hpn) z
      rw [if_pos z, if_neg one_ne]
      exact same w' (Or.inr hpn) rfl
    · obtain ⟨s1, s2⟩ := g3.at hP g1 hn' (fun z => z.elim hpn (fun y => absurd y.1 (by grind)))
      have s1' : w' (15 + n).toNatClampNeg = ix plot n := s1
      rw [s2]
      by_cases hz : ix ppc n = 0
      · rw [if_pos hz, if_neg one_ne]
        exact same w' (Or.inl (fun z => by grind)) rfl
      · have hlot : 0 ≤ ix plot n ∧ ix plot n < lcn := by
          rcases y6 with z | z
          · exact absurd z.1 hz
          · exact z.2
        have hl3 : w' (231 + ix plot n).toNatClampNeg = ix lla (ix plot n) := by
          obtain ⟨_, _, _, _, _, _, _, _, q6⟩ := g3
          exact (q6 (231 + ix plot n) (by grind) (by grind)).trans (hla _ hlot.1 hlot.2)
        rw [if_neg hz, if_pos rfl, gd_2450 (by grind) (by grind), s1', gd_2450 (by grind) (by grind), gd_2450 (by decide) (by decide), hl3, show w' (0 : Int32).toNatClampNeg = T from g5]
        by_cases hc : T ≤ ix lla (ix plot n)
        · rw [if_pos hc]
          exact same w' (Or.inl (fun z => by grind)) rfl
        · rw [if_neg hc, gd_2450 (by grind) (by grind), n_scr g1 (by grind)]
          refine ⟨(n + 1, scr w' n), rfl, ⟨by dsimp only; grind, by dsimp only; grind, ?_, (scr_0 g1 (by grind)).trans g5⟩, msr_lt hn'⟩
          refine g3.step h2 hr g1 hn' (fun m m1 m2 => ?_)
          dsimp only
          constructor
          · rintro (z | ⟨z1, z2⟩)
            · exact Or.inl (Or.inl z)
            · by_cases hm : m = n
              · exact Or.inr hm
              · exact Or.inl (Or.inr ⟨by grind, z2⟩)
          · rintro ((z | ⟨z1, z2⟩) | z)
            · exact Or.inl z
            · exact Or.inr ⟨by grind, z2⟩
            · subst z; exact Or.inr ⟨by grind, by grind, by grind⟩
/-- the model: its days -/
theorem s_days {plc rom lcn h v tod x y1 y2 y3 : Int32} {y4 : Nat → Int32} {plot ppc pmk lla w : Nat → Int32} (h1 : 1 ≤ plc) (h2 : plc ≤ 48) (hr : 1 ≤ rom) (hl2 : lcn ≤ 24) (hw : w 1 * w 2 = plc) (hP : QP plc rom lcn plot ppc pmk w) (hla : ∀ l : Int32, 0 ≤ l → l < lcn → ix w (231 + l) = ix lla l)
    (hh : f_X5_piecesOnHand plc ppc = some h) (ht : w 0 = tod) (t0 : 0 ≤ tod) (tv : tod ≤ 2556) (v1 : 1 ≤ v) (v2 : v ≤ 400) :
    ∃ w', loop (fun z : Int32 × (Nat → Int32) => f_Y8_passDays_L59 v x y1 y2 y3 y4 z.1 z.2) fu (0, w) = some w' ∧ SCR plc rom lcn h plot ppc pmk w (fun m => 1 ≤ ix ppc m ∧ ix lla (ix plot m) < tod + v) w' ∧ w' 0 = tod + v := by
  refine lp_one (f := fun z : Int32 × (Nat → Int32) => f_Y8_passDays_L59 v x y1 y2 y3 y4 z.1 z.2) (fun z => 0 ≤ z.1 ∧ z.1 ≤ v ∧ SCR plc rom lcn h plot ppc pmk w (fun m => 1 ≤ z.1 ∧ 1 ≤ ix ppc m ∧ ix lla (ix plot m) < tod + z.1) z.2 ∧ z.2 0 = tod + z.1) _ (fun z => msr z.1 v) ?_ fu (0, w) ⟨by dsimp only; decide, by dsimp only; grind, SCR.rf hP hh (fun n a b z => by dsimp only at z; grind), by dsimp only; rw [ht, Int32.add_zero]⟩ (msr_fu (by dsimp only; decide) (by grind))
  rintro ⟨n, w'⟩ ⟨g1, g2, g3, g5⟩
  dsimp only at g1 g2 g3 g5 ⊢
  unfold f_Y8_passDays_L59
  by_cases hn : v ≤ n
  · have hv : n = v := by grind
    subst hv
    refine Or.inr ⟨w', by rw [if_pos hn], ?_, g5⟩
    exact g3.eqv (fun m m1 m2 => ⟨fun z => z.2, fun z => ⟨v1, z⟩⟩)
  · left
    have hn' : n < v := by grind
    have hu : upd w' (0 : Int32).toNatClampNeg (w' (0 : Int32).toNatClampNeg + 1) 0 = tod + (n + 1) := by
      show upd w' (0 : Int32).toNatClampNeg (w' (0 : Int32).toNatClampNeg + 1) (0 : Int32).toNatClampNeg = tod + (n + 1)
      rw [upd_same, show w' (0 : Int32).toNatClampNeg = tod + n from g5]; grind
    have g3' : SCR plc rom lcn h plot ppc pmk w (fun m => 1 ≤ n ∧ 1 ≤ ix ppc m ∧ ix lla (ix plot m) < tod + n) (upd w' (0 : Int32).toNatClampNeg (w' (0 : Int32).toNatClampNeg + 1)) := by
      obtain ⟨b1, b2, b3, q1, q2, q3, q4, q5, q6⟩ := g3
      have a : ∀ A B : Int32, 1 ≤ A → AG A B w' (upd w' (0 : Int32).toNatClampNeg (w' (0 : Int32).toNatClampNeg + 1)) := fun A B hA => AG.rf.up (by grind) (by decide) (by grind)
      refine ⟨b1, b2, b3, QP_ag h2 (a _ _ (by decide)) q1, q2, ?_, q4.tr (a _ _ (by decide)), q5.tr (a _ _ (by decide)), q6.tr (a _ _ (by decide))⟩
      rw [show ix (upd w' (0 : Int32).toNatClampNeg (w' (0 : Int32).toNatClampNeg + 1)) 12 = ix w' 12 from a 12 13 (by decide) 12 (by decide) (by decide)]
      exact q3
    obtain ⟨w2, r1, r2, r3⟩ := s_day1 (y0 := v) (y1 := x) (y2 := n) (y3 := y1) (y5 := y2) (y6 := y3) (y4 := y4) (lla := lla) h1 h2 hr hl2 hw hP hla g3' hu (fun m m1 m2 z => ⟨z.2.1, by grind⟩)
    refine ⟨(n + 1, w2), ?_, ⟨by dsimp only; grind, by dsimp only; grind, ?_, r3⟩, msr_lt hn'⟩
    · rw [if_neg hn, gd_2450 (by decide) (by decide), gd_2450 (by decide) (by decide), r1]; rfl
    · exact r2.eqv (fun m m1 m2 => ⟨fun z => ⟨by dsimp only; grind, z⟩, fun z => z.2⟩)

set_option maxRecDepth 4000 in
theorem cs_1 (PL : (Nat → Int32) → (Nat → Int32) → (Nat → Int32) → (Nat → Int64) → (Nat → Int64) → (Nat → Int32) → Prop) (cp1_acts : Int32) (cp1_nextSlot : Int32) (cp1_now_today : Int32) (cp1_now_products : Int32) (cp1_now_itemCount : Int32) (cp1_now_items : Nat → Int32) (cp1_now_books : Nat → Int32) (cp1_now_terms : Nat → Int32) (cp1_now_shelves_lanes : Int32) (cp1_now_shelves_positions : Int32) (cp1_now_shelves_room : Int32) (cp1_now_shelves_gap : Int32) (cp1_now_shelves_places : Int32) (cp1_now_shelves_picked : Int64) (cp1_now_shelves_lot : Nat → Int32) (cp1_now_shelves_pieces : Nat → Int32) (cp1_now_shelves_mark : Nat → Int32) (cp1_now_shelves_byDistance : Nat → Int32) (cp1_now_lots_count : Int32) (cp1_now_lots_product : Nat → Int32) (cp1_now_lots_last : Nat → Int32) (cp1_now_lots_cost : Nat → Int32) (cp1_now_lots_state : Nat → Int32) (cp1_now_lots_byLast : Nat → Int32) (cp1_now_orders_count : Int32) (cp1_now_orders_gifts : Int32) (cp1_now_orders_customer : Nat → Int32) (cp1_now_orders_product : Nat → Int32) (cp1_now_orders_open : Nat → Int32) (cp1_now_orders_due : Nat → Int32) (cp1_now_orders_life : Nat → Int32) (cp1_now_orders_byDue : Nat → Int32) (cp1_now_orders_had : Nat → Int32) (cp1_now_orders_stamps : Nat → Int32) (cp1_hk : Nat) (cp1_st : Nat → StT) (cp1_plan_terms : Nat → Int32) (cp1_plan_low : Nat → Int32) (cp1_plan_high : Nat → Int32) (cp1_plan_bottom : Nat → Int64) (cp1_plan_cost : Nat → Int64) (cp1_plan_act : Nat → Int32) (cp1_picker_deepest : Int32) (cp1_picker_shallowest : Int32) (cp1_picker_widest : Int32) (cp1_picker_least : Nat → Int32) (cp1_picker_next : Nat → Int32) (cp1_rest : Nat → Int32) (cp1_packed : Nat → Int32) (cp2_raised : Int32) (cp2_undos : Int32) (cp2_eldest : Int32) (cp2_w : Nat → Int32) (cp2_kept : Nat → Int32) (cp2_copy : Nat → Int32) (cp2_near : Nat → Int32) (cp2_isDone : Nat → Int32) (cp2_lane : Nat → Int32) (cp2_position : Nat → Int32) (cp2_least : Nat → Int32) (cp2_boxesOf : Nat → Int32) (cp2_staying : Nat → Int64) (cp2_planned : Nat → Int64) (cp2_scale : Nat → Int64) (cp3 : Nat → Int64) (v1 v2 v3 v4 v5 : Int32) (hR : RC PL (cp1_now_today, cp1_now_products, cp1_now_itemCount, cp1_now_items, cp1_now_books, cp1_now_terms, cp1_now_shelves_lanes, cp1_now_shelves_positions, cp1_now_shelves_room, cp1_now_shelves_gap, cp1_now_shelves_places, cp1_now_shelves_picked, cp1_now_shelves_lot, cp1_now_shelves_pieces, cp1_now_shelves_mark, cp1_now_shelves_byDistance, cp1_now_lots_count, cp1_now_lots_product, cp1_now_lots_last, cp1_now_lots_cost, cp1_now_lots_state, cp1_now_lots_byLast, cp1_now_orders_count, cp1_now_orders_gifts, cp1_now_orders_customer, cp1_now_orders_product, cp1_now_orders_open, cp1_now_orders_due, cp1_now_orders_life, cp1_now_orders_byDue, cp1_now_orders_had, cp1_now_orders_stamps) cp2_w cp2_near cp1_acts cp1_nextSlot cp1_hk cp1_st cp2_undos cp2_eldest cp2_kept cp1_plan_terms cp1_plan_low cp1_plan_high cp1_plan_bottom cp1_plan_cost cp1_plan_act) : ∃ z', f_c1 v1 v2 v3 v4 v5 (cp1_acts, cp1_nextSlot, cp1_now_today, cp1_now_products, cp1_now_itemCount, cp1_now_items, cp1_now_books, cp1_now_terms, cp1_now_shelves_lanes, cp1_now_shelves_positions, cp1_now_shelves_room, cp1_now_shelves_gap, cp1_now_shelves_places, cp1_now_shelves_picked, cp1_now_shelves_lot, cp1_now_shelves_pieces, cp1_now_shelves_mark, cp1_now_shelves_byDistance, cp1_now_lots_count, cp1_now_lots_product, cp1_now_lots_last, cp1_now_lots_cost, cp1_now_lots_state, cp1_now_lots_byLast, cp1_now_orders_count, cp1_now_orders_gifts, cp1_now_orders_customer, cp1_now_orders_product, cp1_now_orders_open, cp1_now_orders_due, cp1_now_orders_life, cp1_now_orders_byDue, cp1_now_orders_had, cp1_now_orders_stamps, cp1_hk, cp1_st, cp1_plan_terms, cp1_plan_low, cp1_plan_high, cp1_plan_bottom, cp1_plan_cost, cp1_plan_act, cp1_picker_deepest, cp1_picker_shallowest, cp1_picker_widest, cp1_picker_least, cp1_picker_next, cp1_rest, cp1_packed, cp2_raised, cp2_undos, cp2_eldest, cp2_w, cp2_kept, cp2_copy, cp2_near, cp2_isDone, cp2_lane, cp2_position, cp2_least, cp2_boxesOf, cp2_staying, cp2_planned, cp2_scale, cp3) = some z' ∧ R PL z' := by
  have hS := hR.1
  rw [RS_mk] at hS
  obtain ⟨a1, a2, a3, a4, a5, a6, a7, a8, a9, a10, a11, a12, a13, a14, a15⟩ := hS
  have a0 := a1
  obtain ⟨d0, d1, d2, d3, d4, d5, d6, d7, d8, d9, d10, d11, d12, d13, d14, d15, d16, d17, d18, d19, d20, d21, d22, d23, d24, d25, d26⟩ := a0
  obtain ⟨a', ns', hk', st', u', e', k', m1, m2, m3⟩ := remember_keep hR.1 hR.2.2.1
  have m1 : f_X7_remember cp1_acts cp1_nextSlot cp1_hk cp1_st cp1_now_today cp1_now_products cp1_now_itemCount cp1_now_items cp1_now_books cp1_now_terms cp1_now_shelves_lanes cp1_now_shelves_positions cp1_now_shelves_room cp1_now_shelves_gap cp1_now_shelves_places cp1_now_shelves_picked cp1_now_shelves_lot cp1_now_shelves_pieces cp1_now_shelves_mark cp1_now_shelves_byDistance cp1_now_lots_count cp1_now_lots_product cp1_now_lots_last cp1_now_lots_cost cp1_now_lots_state cp1_now_lots_byLast cp1_now_orders_count cp1_now_orders_gifts cp1_now_orders_customer cp1_now_orders_product cp1_now_orders_open cp1_now_orders_due cp1_now_orders_life cp1_now_orders_byDue cp1_now_orders_had cp1_now_orders_stamps = some (a', ns', hk', st') := m1
  by_cases c1 : 1 ≤ v1 ∧ v1 ≤ 400
  rotate_left
  · skip
    have h1 : f_W_passDays v1 cp1_acts cp1_nextSlot cp1_hk cp1_st cp1_now_today cp1_now_products cp1_now_itemCount cp1_now_items cp1_now_books cp1_now_terms cp1_now_shelves_lanes cp1_now_shelves_positions cp1_now_shelves_room cp1_now_shelves_gap cp1_now_shelves_places cp1_now_shelves_picked cp1_now_shelves_lot cp1_now_shelves_pieces cp1_now_shelves_mark cp1_now_shelves_byDistance cp1_now_lots_count cp1_now_lots_product cp1_now_lots_last cp1_now_lots_cost cp1_now_lots_state cp1_now_lots_byLast cp1_now_orders_count cp1_now_orders_gifts cp1_now_orders_customer cp1_now_orders_product cp1_now_orders_open cp1_now_orders_due cp1_now_orders_life cp1_now_orders_byDue cp1_now_orders_had cp1_now_orders_stamps cp3 = some (1, cp1_acts, cp1_nextSlot, cp1_hk, cp1_st, cp1_now_today, cp1_now_books, cp1_now_shelves_lot, cp1_now_shelves_pieces, cp1_now_shelves_mark, cp3) := by
      unfold f_W_passDays f_X7_passDays
      rw [n_range, if_neg c1]
      simp only [bnd1, bnd10, Option.bind_some, mx, ↓reduceIte]
    have h2 : f_Y8_passDays v1 cp2_raised cp2_undos cp2_eldest cp2_w cp2_kept = some (0, 1, cp2_undos, cp2_eldest, cp2_w, cp2_kept) := by
      unfold f_Y8_passDays
      rw [n_in, if_neg c1]
      simp only [bnd1, bnd2, Option.bind_some, can_f0, ↓reduceIte]
    refine ⟨?wa, ?pa, ?qa⟩
    case pa =>
      rw [fc_1, h1]
      simp only [bnd11, Option.bind_some]
      rw [h2]
      simp only [bnd1, bnd6, Option.bind_some, f_Y8_thrown]
      exact fin_1 (show ¬ (1 : Int32) = 0 by decide)
    case qa =>
      rw [R_mk]
      exact hR
  have q1 := c1.1
  have q2 := c1.2
  by_cases c2 : 2556 < cp1_now_today + v1
  · skip
    have h1 : f_W_passDays v1 cp1_acts cp1_nextSlot cp1_hk cp1_st cp1_now_today cp1_now_products cp1_now_itemCount cp1_now_items cp1_now_books cp1_now_terms cp1_now_shelves_lanes cp1_now_shelves_positions cp1_now_shelves_room cp1_now_shelves_gap cp1_now_shelves_places cp1_now_shelves_picked cp1_now_shelves_lot cp1_now_shelves_pieces cp1_now_shelves_mark cp1_now_shelves_byDistance cp1_now_lots_count cp1_now_lots_product cp1_now_lots_last cp1_now_lots_cost cp1_now_lots_state cp1_now_lots_byLast cp1_now_orders_count cp1_now_orders_gifts cp1_now_orders_customer cp1_now_orders_product cp1_now_orders_open cp1_now_orders_due cp1_now_orders_life cp1_now_orders_byDue cp1_now_orders_had cp1_now_orders_stamps cp3 = some (2, cp1_acts, cp1_nextSlot, cp1_hk, cp1_st, cp1_now_today, cp1_now_books, cp1_now_shelves_lot, cp1_now_shelves_pieces, cp1_now_shelves_mark, cp3) := by
      unfold f_W_passDays f_X7_passDays
      rw [n_range, if_pos c1]
      simp only [bnd1, bnd10, Option.bind_some, mx]
      rw [if_pos c2]
      unfold f_X7_passDays_J28
      simp only [bnd1, n_needState, Option.bind_some, mx, ↓reduceIte, String.reduceEq]
    have h2 : f_Y8_passDays v1 cp2_raised cp2_undos cp2_eldest cp2_w cp2_kept = some (0, 2, cp2_undos, cp2_eldest, cp2_w, cp2_kept) := by
      unfold f_Y8_passDays
      rw [n_in, if_pos c1]
      simp only [bnd1, bnd2, Option.bind_some, can_t, if_neg one_ne]
      rw [gd_2450 (by decide) (by decide), show cp2_w (0 : Int32).toNatClampNeg = cp1_now_today from d0, if_pos c2]
      unfold f_Y8_passDays_J36
      simp only [bnd2, can_f0, Option.bind_some, ↓reduceIte]
    refine ⟨?wb, ?pb, ?qb⟩
    case pb =>
      rw [fc_1, h1]
      simp only [bnd11, Option.bind_some]
      rw [h2]
      simp only [bnd1, bnd6, Option.bind_some, f_Y8_thrown]
      exact fin_1 (show ¬ (2 : Int32) = 0 by decide)
    case qb =>
      rw [R_mk]
      exact hR
  have hw : cp2_w 1 * cp2_w 2 = cp1_now_shelves_places := by rw [d3, d6, d15]
  obtain ⟨hd, g1, g2⟩ := a14
  obtain ⟨r, s1, s2, s3⟩ := s_old (T := cp1_now_today + v1) (plot := cp1_now_shelves_lot) (pmk := cp1_now_shelves_mark) (lla := cp1_now_lots_last) d16 d17 d22 d23 g1 (fun z : Int32 × Int32 × (Nat → Int32) × (Nat → Int32) × (Nat → Int32) => f_X7_passDays_L52 a' ns' hk' st' (cp1_now_today + v1) cp1_now_products cp1_now_itemCount cp1_now_items cp1_now_books cp1_now_terms cp1_now_shelves_lanes cp1_now_shelves_positions cp1_now_shelves_room cp1_now_shelves_gap cp1_now_shelves_places cp1_now_shelves_picked cp1_now_shelves_byDistance cp1_now_lots_count cp1_now_lots_product cp1_now_lots_last cp1_now_lots_cost cp1_now_lots_state cp1_now_lots_byLast cp1_now_orders_count cp1_now_orders_gifts cp1_now_orders_customer cp1_now_orders_product cp1_now_orders_open cp1_now_orders_due cp1_now_orders_life cp1_now_orders_byDue cp1_now_orders_had cp1_now_orders_stamps z.1 z.2.1 z.2.2.1 z.2.2.2.1 z.2.2.2.2) (fun e n a b c => rfl)
  obtain ⟨w', r1, r2, r3⟩ := s_days (x := cp2_w (12 : Int32).toNatClampNeg) (y1 := 0) (y2 := u') (y3 := e') (y4 := k') (lla := cp1_now_lots_last) d16 d17 d10 d23 hw a3 (fun l l1 l2 => (a5 l l1 l2).2.2.2.1) g1 d0 d1 d2 q1 q2
  have s2' : CLR cp1_now_shelves_places (fun m => 1 ≤ ix cp1_now_shelves_pieces m ∧ ix cp1_now_lots_last (ix cp1_now_shelves_lot m) < cp1_now_today + v1) cp1_now_shelves_lot cp1_now_shelves_pieces cp1_now_shelves_mark r.2.1 r.2.2.1 r.2.2.2 := by
    refine s2.eqv (fun m m1 m2 => ⟨fun z => ⟨z.1, z.2.2.2⟩, fun z => ?_⟩)
    obtain ⟨-, -, -, -, -, y6⟩ := a3 m m1 m2
    rcases y6 with y | y
    · exact absurd z.1 (by rw [y.1]; decide)
    · exact ⟨z.1, y.2.1, y.2.2, z.2⟩
  obtain ⟨t1, t2, t3, t4, t5⟩ := r2.fin (by clear hR m1 m2 m3; grind) d17 s2' s3
  have hAG : ∀ A B : Int32, 1 ≤ A → (B ≤ 12 ∨ (13 ≤ A ∧ B ≤ 15) ∨ (159 ≤ A ∧ B ≤ 2450)) → AG A B cp2_w w' := fun A B hA h => by
    rcases h with h | ⟨h, k⟩ | ⟨h, k⟩
    · exact t3.sub hA h
    · exact t4.sub h k
    · exact t5.sub h k
  · skip
    have h1 : f_W_passDays v1 cp1_acts cp1_nextSlot cp1_hk cp1_st cp1_now_today cp1_now_products cp1_now_itemCount cp1_now_items cp1_now_books cp1_now_terms cp1_now_shelves_lanes cp1_now_shelves_positions cp1_now_shelves_room cp1_now_shelves_gap cp1_now_shelves_places cp1_now_shelves_picked cp1_now_shelves_lot cp1_now_shelves_pieces cp1_now_shelves_mark cp1_now_shelves_byDistance cp1_now_lots_count cp1_now_lots_product cp1_now_lots_last cp1_now_lots_cost cp1_now_lots_state cp1_now_lots_byLast cp1_now_orders_count cp1_now_orders_gifts cp1_now_orders_customer cp1_now_orders_product cp1_now_orders_open cp1_now_orders_due cp1_now_orders_life cp1_now_orders_byDue cp1_now_orders_had cp1_now_orders_stamps cp3 = some (0, a', ns', hk', st', cp1_now_today + v1, (upd cp1_now_books (3 : Int32).toNatClampNeg (cp1_now_books 3 + r.1)), r.2.1, r.2.2.1, r.2.2.2, vp_updL cp3 (0 : Int32).toNatClampNeg r.1.toInt64) := by
      unfold f_W_passDays f_X7_passDays
      rw [n_range, if_pos c1]
      simp only [bnd1, bnd10, Option.bind_some, mx]
      rw [if_neg c2]
      unfold f_X7_passDays_J28
      simp only [bnd1, bnd4, n_needState, Option.bind_some, mx, if_neg one_ne]
      rw [m1]
      simp only [Option.bind_some]
      rw [s1]
      simp only [Option.bind_some]
      rw [gd_6 (by decide) (by decide), gd_6 (by decide) (by decide)]
      simp only [Option.bind_some]
      rw [gd_1 (by decide) (by decide)]
      rfl
    have h2 : f_Y8_passDays v1 cp2_raised cp2_undos cp2_eldest cp2_w cp2_kept = some (r.1, 0, u', e', w', k') := by
      unfold f_Y8_passDays
      rw [n_in, if_pos c1]
      simp only [bnd1, bnd2, Option.bind_some, can_t, if_neg one_ne]
      rw [gd_2450 (by decide) (by decide), show cp2_w (0 : Int32).toNatClampNeg = cp1_now_today from d0, if_neg c2]
      unfold f_Y8_passDays_J36
      simp only [bnd1, bnd2, bnd3, can_t, Option.bind_some, if_neg one_ne]
      rw [m2]
      simp only [Option.bind_some]
      rw [gd_2450 (by decide) (by decide), r1]
      simp only [Option.bind_some]
      rw [gd_2450 (by decide) (by decide)]
      have z1 : w' (12 : Int32).toNatClampNeg - cp2_w (12 : Int32).toNatClampNeg = r.1 := by
        have z2 : w' (12 : Int32).toNatClampNeg = cp2_w (12 : Int32).toNatClampNeg + r.1 := t2
        rw [z2]; clear hR m1 m2 m3; grind
      rw [z1]
    have z7 : w' 1 = cp2_w 1 ∧ w' 2 = cp2_w 2 ∧ w' 3 = cp2_w 3 ∧ w' 4 = cp2_w 4 ∧ w' 5 = cp2_w 5 ∧ w' 6 = cp2_w 6 ∧ w' 7 = cp2_w 7 :=
      ⟨t3 1 (by decide) (by decide), t3 2 (by decide) (by decide), t3 3 (by decide) (by decide), t3 4 (by decide) (by decide), t3 5 (by decide) (by decide), t3 6 (by decide) (by decide), t3 7 (by decide) (by decide)⟩
    obtain ⟨y1, y2, y3, y4, y5, y6, y7⟩ := z7
    have q1d : QD (cp1_now_today + v1) cp1_now_products cp1_now_shelves_lanes cp1_now_shelves_positions cp1_now_shelves_room cp1_now_shelves_gap cp1_now_shelves_places cp1_now_lots_count cp1_now_orders_count w' :=
      ⟨r3, by clear hR m1 m2 m3; grind, by clear hR m1 m2 m3; grind, y1.trans d3, d4, d5, y2.trans d6, d7, d8, y3.trans d9, d10, d11, y4.trans d12, d13, d14, d15, d16, d17, y5.trans d18, d19, d20, y6.trans d21, d22, d23, y7.trans d24, d25, d26⟩
    have q2b : QB (upd cp1_now_books (3 : Int32).toNatClampNeg (cp1_now_books 3 + r.1)) w' := by
      intro n n1 n2
      by_cases hn : n = 3
      · subst hn
        have z2 : ix cp2_w 12 = ix cp1_now_books 3 := a2 3 (by decide) (by decide)
        show ix w' 12 = cp1_now_books 3 + r.1
        rw [t2, show ix cp2_w 12 = cp1_now_books 3 from z2]
      · have z1 : ix w' (9 + n) = ix cp2_w (9 + n) := by
          by_cases hm : n < 3
          · exact hAG 9 12 (by decide) (by decide) _ (by clear hR m1 m2 m3; grind) (by clear hR m1 m2 m3; grind)
          · exact hAG 13 15 (by decide) (by decide) _ (by clear hR m1 m2 m3; grind) (by clear hR m1 m2 m3; grind)
        rw [z1, a2 n n1 n2]
        show _ = upd cp1_now_books (3 : Int32).toNatClampNeg (cp1_now_books 3 + r.1) n.toNatClampNeg
        rw [upd_ne (by decide) n1 hn]
    have q14 : QA cp1_now_shelves_places (upd cp1_now_books (3 : Int32).toNatClampNeg (cp1_now_books 3 + r.1)) r.2.2.1 := by
      refine ⟨hd - r.1, s3, ?_⟩
      show (cp1_now_books 0 + cp1_now_books 2 + cp1_now_books 5) - (cp1_now_books 1 + (cp1_now_books 3 + r.1) + cp1_now_books 4) = hd - r.1
      rw [← g2]; clear hR m1 m2 m3; grind
    refine ⟨?wd, ?pd, ?qd⟩
    case pd =>
      rw [fc_1, h1]
      simp only [bnd11, Option.bind_some]
      rw [h2]
      simp only [bnd1, bnd6, Option.bind_some, f_Y8_thrown]
      refine fin_0 ?_
      rfl
    case qd =>
      rw [R_mk]
      refine ⟨?_, hR.2.1, m3, hR.2.2.2⟩
      rw [RS_mk]
      exact ⟨q1d, q2b, t1, QK_ag (hAG _ _ (by decide) (by decide)) a4, QL_ag d23 (hAG _ _ (by decide) (by decide)) a5, a6, QO_ag d26 (hAG _ _ (by decide) (by decide)) a7, a8, QH_ag d26 (hAG _ _ (by decide) (by decide)) a9, QG_ag d25 d26 (hAG _ _ (by decide) (by decide)) (hAG _ _ (by decide) (by decide)) a10, a11, QI_ag (hAG _ _ (by decide) (by decide)) a12, QT_ag (hAG _ _ (by decide) (by decide)) a13, q14, a15⟩

