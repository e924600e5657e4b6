/-! ===== boxes ===== -/
theorem p_boxes {icnt v1 c : Int32} {itm packed w boxesOf : Nat → Int32} {o : Nat → Int64} (hI : QI icnt itm w) : ∃ k p' o' b bx', f_W_boxes v1 icnt itm packed o = some (k, p', o') ∧ f_Y8_boxes v1 c w boxesOf = some (b, k, bx') ∧ (k = 0 → o' 0 = b.toInt64) := by
  obtain ⟨i1, i2, i3, i4⟩ := hI
  obtain ⟨n, hn⟩ : ∃ n : Nat, n = icnt.toNatClampNeg := ⟨_, rfl⟩
  have hi : icnt = Int32.ofNat n := by rw [hn]; exact (of_tn i2).symm
  have n8 : n ≤ 8 := by rw [hn]; exact (tn_le i2 (by decide)).mp i3
  have hw : w 2423 = Int32.ofNat n := by rw [i1, hi]
  have hx : ∀ i : Nat, i < n → 0 ≤ Int32.ofNat i ∧ Int32.ofNat i < icnt ∧ (Int32.ofNat i).toNatClampNeg = i ∧ (2424 + Int32.ofNat i).toNatClampNeg = 2424 + i := fun i hl => by
    have e1 : 2424 + Int32.ofNat i = Int32.ofNat (2424 + i) := by
      apply Int32.toBitVec_inj.mp
      simp [BitVec.ofNat_add]
    exact ⟨(on_k (by omega)).2.2, by rw [hi]; exact (on_lt (by omega) (by omega)).mpr hl, (on_k (by omega)).1, by rw [e1]; exact (on_k (by omega)).1⟩
  have hit : ∀ i : Nat, i < n → w (2424 + i) = itm i ∧ 1 ≤ itm i ∧ itm i ≤ 20 := fun i hl => by
    obtain ⟨x1, x2, x3, x4⟩ := hx i hl
    have y := i4 _ x1 x2
    unfold ix at y
    rw [x3, x4] at y
    exact y
  by_cases c1 : 1 ≤ v1 ∧ v1 ≤ 40
  rotate_left
  · refine ⟨1, packed, o, 0, boxesOf, ?_, ?_, fun z => absurd z (by decide)⟩
    · unfold f_W_boxes f_X7_boxes
      rw [n_range, if_neg c1]
      simp only [bnd1, bnd2, Option.bind_some, mx, ↓reduceIte]
    · unfold f_Y8_boxes f_Y8_boxes_J23 f_Y8_boxes_J24
      rw [n_in, if_neg c1]
      simp only [bnd1, bnd2, Option.bind_some, can_f0, ↓reduceIte]
  have s0 : 0 ≤ v1 := Int32.le_trans (by decide) c1.1
  have h2423 : w (2423 : Int32).toNatClampNeg = Int32.ofNat n := hw
  obtain ⟨e, d, q1, q2, q3⟩ := lp_rel (f := fun z : Int32 => f_X7_boxes_L9 v1 icnt itm packed z) (g := fun z : Int32 => f_Y8_isGreater_L2 v1 w z)
    (fun s t => s = t ∧ ∃ j : Nat, s = Int32.ofNat j ∧ j ≤ n ∧ ∀ i, i < j → itm i ≤ v1) (fun e d => (e = .inl () ∧ d = .inr () ∧ ∀ i, i < n → itm i ≤ v1) ∨ (e = .inr "java/lang/IllegalArgumentException" ∧ d = .inl ())) (fun z => msr z 8) (by
    rintro k k' ⟨rfl, j, g1, g2, g3⟩
    subst g1
    unfold f_X7_boxes_L9 f_Y8_isGreater_L2
    rw [gd_2450 (by decide) (by decide), h2423, hi]
    by_cases hj : n ≤ j
    · right
      have z := (on_le (k := n) (m := j) (by omega) (by omega)).mpr hj
      rw [if_pos z, if_pos z]
      exact ⟨_, _, rfl, rfl, Or.inl ⟨rfl, rfl, fun i hl => g3 i (by omega)⟩⟩
    · have z : ¬ Int32.ofNat n ≤ Int32.ofNat j := fun y => hj ((on_le (k := n) (m := j) (by omega) (by omega)).mp y)
      obtain ⟨x1, x2, x3, x4⟩ := hx j (by omega)
      obtain ⟨y1, y2, y3⟩ := hit j (by omega)
      have gi : 0 ≤ 2424 + Int32.ofNat j ∧ 2424 + Int32.ofNat j < 2450 := by
        have e1 : 2424 + Int32.ofNat j = Int32.ofNat (2424 + j) := by
          apply Int32.toBitVec_inj.mp
          simp [BitVec.ofNat_add]
        rw [e1]; exact ⟨(on_k (by omega)).2.2, (on_lt (k := 2424 + j) (m := 2450) (by omega) (by omega)).mpr (by omega)⟩
      rw [if_neg z, if_neg z, gd_8 x1 ((on_lt (k := j) (m := 8) (by omega) (by omega)).mpr (by omega)), gd_2450 gi.1 gi.2, x3, x4, y1, n_range]
      simp only [bnd1, Option.bind_some]
      by_cases l : itm j ≤ v1
      · left
        rw [if_pos ⟨y2, l⟩, if_pos l]
        refine ⟨_, _, rfl, rfl, ⟨rfl, j + 1, on_inc, by omega, fun i hl => ?_⟩, msr_lt ((on_lt (k := j) (m := 8) (by omega) (by omega)).mpr (by omega))⟩
        by_cases e : i = j
        · rw [e]; exact l
        · exact g3 i (by omega)
      · right
        rw [if_neg (fun y => l y.2), if_neg l]
        exact ⟨_, _, rfl, rfl, Or.inr ⟨rfl, rfl⟩⟩) fu 0 0 ⟨rfl, 0, rfl, by omega, fun i hl => absurd hl (by omega)⟩ (msr_fu (by decide) (by decide))
  rcases q3 with ⟨rfl, rfl, hall⟩ | ⟨rfl, rfl⟩
  · obtain ⟨c', t1, t2, t3⟩ := wb_out (S := v1) (itm := itm) (c := packed) n8 hi s0 c1.2 (fun i hl => (hit i hl).2)
    obtain ⟨b', u1, u2⟩ := mb_out (S := v1) (itm := itm) (w := w) (b := boxesOf) 0 n8 hw s0 (fun i hl => (hit i hl).2) (fun i hl => (hit i hl).1)
    have fin := wm_full n8 s0 c1.2 (fun i hl => ⟨(hit i hl).2.1, hall i hl⟩) t2 t3 u2
    have t2' := two_le n8
    have tp := Nat.two_pow_pos n
    have e1 : Int32.ofNat (2 ^ n) - 1 = Int32.ofNat (2 ^ n - 1) := by
      have := on_inc (k := 2 ^ n - 1)
      rw [show 2 ^ n - 1 + 1 = 2 ^ n by omega] at this
      rw [← this, Int32.add_sub_cancel]
    refine ⟨0, c', vp_updL o (0 : Int32).toNatClampNeg (b' (2 ^ n - 1)).toInt64, b' (2 ^ n - 1), b', ?_, ?_, fun _ => rfl⟩
    · unfold f_W_boxes f_X7_boxes
      rw [n_range, if_pos c1]
      simp only [bnd1, bnd2, Option.bind_some, mx]
      rw [q1]
      simp only [Option.bind_some, sel]
      rw [t1]
      simp only [Option.bind_some]
      rw [gd_1 (by decide) (by decide), fin]
    · unfold f_Y8_boxes
      rw [n_in, if_pos c1]
      simp only [bnd1, bnd2, Option.bind_some, if_neg one_ne]
      unfold f_Y8_isGreater
      rw [q2]
      simp only [bnd1, Option.bind_some, sel, ↓reduceIte]
      unfold f_Y8_boxes_J24
      simp only [bnd1, bnd2, Option.bind_some, can_t, if_neg one_ne]
      rw [gd_256 (by decide) (by decide)]
      show Option.bind (loop _ fu (1, upd boxesOf 0 0)) _ = _
      rw [u1]
      simp only [Option.bind_some]
      rw [gd_2450 (by decide) (by decide), h2423, of_shl n (by omega), e1, gd_256 (on_k (by omega)).2.2 ((on_lt (k := 2 ^ n - 1) (m := 256) (by omega) (by omega)).mpr (by omega)), (on_k (by omega)).1]
  · refine ⟨1, packed, o, 0, boxesOf, ?_, ?_, fun z => absurd z (by decide)⟩
    · unfold f_W_boxes f_X7_boxes
      rw [n_range, if_pos c1]
      simp only [bnd1, bnd2, Option.bind_some, mx]
      rw [q1]
      simp only [Option.bind_some, sel, ↓reduceIte]
    · unfold f_Y8_boxes
      rw [n_in, if_pos c1]
      simp only [bnd1, bnd2, Option.bind_some, if_neg one_ne]
      unfold f_Y8_isGreater
      rw [q2]
      simp only [bnd1, Option.bind_some, sel, if_neg one_ne]
      unfold f_Y8_boxes_J23 f_Y8_boxes_J24
      simp only [bnd1, bnd2, Option.bind_some, can_f0, ↓reduceIte]

set_option maxRecDepth 4000 in
theorem cs_34 (PL : (Nat → Int32) → (Nat → Int32) → (Nat → Int32) → (Nat → Int64) → (Nat → Int64) → (Nat → Int32) → Prop) (cp1_acts : Int32) (cp1_nextSlot : Int32) (cp1_now_today : Int32) (cp1_now_products : Int32) (cp1_now_itemCount : Int32) (cp1_now_items : Nat → Int32) (cp1_now_books : Nat → Int32) (cp1_now_terms : Nat → Int32) (cp1_now_shelves_lanes : Int32) (cp1_now_shelves_positions : Int32) (cp1_now_shelves_room : Int32) (cp1_now_shelves_gap : Int32) (cp1_now_shelves_places : Int32) (cp1_now_shelves_picked : Int64) (cp1_now_shelves_lot : Nat → Int32) (cp1_now_shelves_pieces : Nat → Int32) (cp1_now_shelves_mark : Nat → Int32) (cp1_now_shelves_byDistance : Nat → Int32) (cp1_now_lots_count : Int32) (cp1_now_lots_product : Nat → Int32) (cp1_now_lots_last : Nat → Int32) (cp1_now_lots_cost : Nat → Int32) (cp1_now_lots_state : Nat → Int32) (cp1_now_lots_byLast : Nat → Int32) (cp1_now_orders_count : Int32) (cp1_now_orders_gifts : Int32) (cp1_now_orders_customer : Nat → Int32) (cp1_now_orders_product : Nat → Int32) (cp1_now_orders_open : Nat → Int32) (cp1_now_orders_due : Nat → Int32) (cp1_now_orders_life : Nat → Int32) (cp1_now_orders_byDue : Nat → Int32) (cp1_now_orders_had : Nat → Int32) (cp1_now_orders_stamps : Nat → Int32) (cp1_hk : Nat) (cp1_st : Nat → StT) (cp1_plan_terms : Nat → Int32) (cp1_plan_low : Nat → Int32) (cp1_plan_high : Nat → Int32) (cp1_plan_bottom : Nat → Int64) (cp1_plan_cost : Nat → Int64) (cp1_plan_act : Nat → Int32) (cp1_picker_deepest : Int32) (cp1_picker_shallowest : Int32) (cp1_picker_widest : Int32) (cp1_picker_least : Nat → Int32) (cp1_picker_next : Nat → Int32) (cp1_rest : Nat → Int32) (cp1_packed : Nat → Int32) (cp2_raised : Int32) (cp2_undos : Int32) (cp2_eldest : Int32) (cp2_w : Nat → Int32) (cp2_kept : Nat → Int32) (cp2_copy : Nat → Int32) (cp2_near : Nat → Int32) (cp2_isDone : Nat → Int32) (cp2_lane : Nat → Int32) (cp2_position : Nat → Int32) (cp2_least : Nat → Int32) (cp2_boxesOf : Nat → Int32) (cp2_staying : Nat → Int64) (cp2_planned : Nat → Int64) (cp2_scale : Nat → Int64) (cp3 : Nat → Int64) (v1 v2 v3 v4 v5 : Int32) (hR : RC PL (cp1_now_today, cp1_now_products, cp1_now_itemCount, cp1_now_items, cp1_now_books, cp1_now_terms, cp1_now_shelves_lanes, cp1_now_shelves_positions, cp1_now_shelves_room, cp1_now_shelves_gap, cp1_now_shelves_places, cp1_now_shelves_picked, cp1_now_shelves_lot, cp1_now_shelves_pieces, cp1_now_shelves_mark, cp1_now_shelves_byDistance, cp1_now_lots_count, cp1_now_lots_product, cp1_now_lots_last, cp1_now_lots_cost, cp1_now_lots_state, cp1_now_lots_byLast, cp1_now_orders_count, cp1_now_orders_gifts, cp1_now_orders_customer, cp1_now_orders_product, cp1_now_orders_open, cp1_now_orders_due, cp1_now_orders_life, cp1_now_orders_byDue, cp1_now_orders_had, cp1_now_orders_stamps) cp2_w cp2_near cp1_acts cp1_nextSlot cp1_hk cp1_st cp2_undos cp2_eldest cp2_kept cp1_plan_terms cp1_plan_low cp1_plan_high cp1_plan_bottom cp1_plan_cost cp1_plan_act) : ∃ z', f_c34 v1 v2 v3 v4 v5 (cp1_acts, cp1_nextSlot, cp1_now_today, cp1_now_products, cp1_now_itemCount, cp1_now_items, cp1_now_books, cp1_now_terms, cp1_now_shelves_lanes, cp1_now_shelves_positions, cp1_now_shelves_room, cp1_now_shelves_gap, cp1_now_shelves_places, cp1_now_shelves_picked, cp1_now_shelves_lot, cp1_now_shelves_pieces, cp1_now_shelves_mark, cp1_now_shelves_byDistance, cp1_now_lots_count, cp1_now_lots_product, cp1_now_lots_last, cp1_now_lots_cost, cp1_now_lots_state, cp1_now_lots_byLast, cp1_now_orders_count, cp1_now_orders_gifts, cp1_now_orders_customer, cp1_now_orders_product, cp1_now_orders_open, cp1_now_orders_due, cp1_now_orders_life, cp1_now_orders_byDue, cp1_now_orders_had, cp1_now_orders_stamps, cp1_hk, cp1_st, cp1_plan_terms, cp1_plan_low, cp1_plan_high, cp1_plan_bottom, cp1_plan_cost, cp1_plan_act, cp1_picker_deepest, cp1_picker_shallowest, cp1_picker_widest, cp1_picker_least, cp1_picker_next, cp1_rest, cp1_packed, cp2_raised, cp2_undos, cp2_eldest, cp2_w, cp2_kept, cp2_copy, cp2_near, cp2_isDone, cp2_lane, cp2_position, cp2_least, cp2_boxesOf, cp2_staying, cp2_planned, cp2_scale, cp3) = some z' ∧ R PL z' := by
  have hS := hR.1
  rw [RS_mk] at hS
  obtain ⟨a1, a2, a3, a4, a5, a6, a7, a8, a9, a10, a11, a12, a13, a14, a15⟩ := hS
  obtain ⟨k, p', o', b, bx', h1, h2, h3⟩ := p_boxes (v1 := v1) (c := cp2_raised) (o := cp3) (packed := cp1_packed) (boxesOf := cp2_boxesOf) a12
  refine ⟨?w, ?h1, ?h2⟩
  case h1 =>
    rw [fc_34, h1]
    simp only [bnd3, Option.bind_some]
    rw [h2]
    simp only [bnd1, Option.bind_some, f_Y8_thrown]
    exact fin_ok2 h3
  case h2 => rw [R_mk]; exact hR
