section GD
variable {p : Program} {l : Launch} {e : Env} {R : Room} {s : State} {m : MethodId} {args : Array Value} {below : List Frame} {meth : Method} {c : Code} {H : Heap} {locs : List Loc} {cells slots : Nat} {Q : State → Prop}
theorem W_unbase {g : JFrame} (k : W p l e R s m args below meth c H locs cells slots Q g) : W p l e R (s.setDrawn s.drawn) m args below meth c H locs cells slots Q g := k
end GD
def f_X7_meanLife_L21 (c_now_today : Int32) (c_now_shelves_places : Int32) (c_now_shelves_lot : Nat → Int32) (c_now_shelves_pieces : Nat → Int32) (c_now_lots_count : Int32) (c_now_lots_last : Nat → Int32) (c_rest : Nat → Int32) (n1 : Int64) (n3 : Int64) (n5 : Int32) : Option ((Int64 × Int64 × Int32) ⊕ (Int64 × Int64)) :=
  (if c_now_lots_count ≤ n5 then some (.inr (n1, n3))
  else gd n5 24 (gd n5 24 (gd n5 24 (some (.inl (n1 + ((((c_now_lots_last n5.toNatClampNeg) - c_now_today).toInt64) * ((c_rest n5.toNatClampNeg).toInt64)), n3 + ((c_rest n5.toNatClampNeg).toInt64), n5 + 1))))))
def f_X7_meanLife (c_now_today : Int32) (c_now_shelves_places : Int32) (c_now_shelves_lot : Nat → Int32) (c_now_shelves_pieces : Nat → Int32) (c_now_lots_count : Int32) (c_now_lots_last : Nat → Int32) (c_rest : Nat → Int32) : Option (UInt64 × (Nat → Int32)) :=
  bnd1 (f_X5_countLots c_now_shelves_places c_now_shelves_lot c_now_shelves_pieces c_rest) (fun o3 =>
  ((bnd2 (loop (fun z => f_X7_meanLife_L21 c_now_today c_now_shelves_places c_now_shelves_lot c_now_shelves_pieces c_now_lots_count c_now_lots_last o3 z.1 z.2.1 z.2.2) fu (0, 0, 0)) fun m9 m10 =>
  (if (lg_cmp m10 0) = 0 then some (0, o3)
  else some (FP.ddiv (FP.l2d m9) (FP.l2d m10), o3)))))
set_option maxHeartbeats 4000000 in
set_option maxRecDepth 100000 in
theorem k_X7_meanLife (l : Launch) (hl0 : l.stackTraces = false) (D : va_G) (cI cJ cZ cS : ClassId) (B0 : Nat) (sz : Nat) (a0 a_now a_past a_plan a_picker a_rest a_packed a_now_items a_now_books a_now_terms a_now_shelves a_now_lots a_now_orders a_now_shelves_lot a_now_shelves_pieces a_now_shelves_mark a_now_shelves_byDistance a_now_lots_product a_now_lots_last a_now_lots_cost a_now_lots_state a_now_lots_byLast : Nat) (c_acts : Int32) (c_nextSlot : Int32) (c_now_today : Int32) (c_now_products : Int32) (c_now_itemCount : Int32) (c_now_shelves_lanes : Int32) (c_now_shelves_positions : Int32) (c_now_shelves_room : Int32) (c_now_shelves_gap : Int32) (c_now_shelves_places : Int32) (c_now_shelves_picked : Int64) (c_now_shelves_lot : Nat → Int32) (c_now_shelves_pieces : Nat → Int32) (c_now_lots_count : Int32) (c_now_lots_last : Nat → Int32) (c_rest : Nat → Int32) (r9 : UInt64) (oc_rest : Nat → Int32)  (hf : f_X7_meanLife c_now_today c_now_shelves_places c_now_shelves_lot c_now_shelves_pieces c_now_lots_count c_now_lots_last c_rest = some (r9, oc_rest)) : MetD lw_cs l yX7_meanLife (wz yX7_meanLife cX7_meanLife 6 (some .double)) ({ frames := 1, cells := 0, slots := 0, locals := 23 }) (va_Pc [.ref a0] (wp D cI cJ cZ cS B0 [oX7 a0 a_now a_past c_acts c_nextSlot a_plan a_picker a_rest a_packed, oX6 a_now c_now_today c_now_products c_now_itemCount a_now_items a_now_books a_now_terms a_now_shelves a_now_lots a_now_orders, oX5 a_now_shelves c_now_shelves_lanes c_now_shelves_positions c_now_shelves_room c_now_shelves_gap c_now_shelves_places c_now_shelves_picked a_now_shelves_lot a_now_shelves_pieces a_now_shelves_mark a_now_shelves_byDistance, rI cI a_now_shelves_lot 48 c_now_shelves_lot, rI cI a_now_shelves_pieces 48 c_now_shelves_pieces, oX1 a_now_lots c_now_lots_count a_now_lots_product a_now_lots_last a_now_lots_cost a_now_lots_state a_now_lots_byLast, rI cI a_now_lots_last 24 c_now_lots_last, rI cI a_rest 24 c_rest] sz)) (va_Qd (fun (r2 : UInt64) (_ : Unit) => alike64 r2 r9 = true) (fun _ t => va_P D vwCl [oX7 a0 a_now a_past c_acts c_nextSlot a_plan a_picker a_rest a_packed, oX6 a_now c_now_today c_now_products c_now_itemCount a_now_items a_now_books a_now_terms a_now_shelves a_now_lots a_now_orders, oX5 a_now_shelves c_now_shelves_lanes c_now_shelves_positions c_now_shelves_room c_now_shelves_gap c_now_shelves_places c_now_shelves_picked a_now_shelves_lot a_now_shelves_pieces a_now_shelves_mark a_now_shelves_byDistance, rI cI a_now_shelves_lot 48 c_now_shelves_lot, rI cI a_now_shelves_pieces 48 c_now_shelves_pieces, oX1 a_now_lots c_now_lots_count a_now_lots_product a_now_lots_last a_now_lots_cost a_now_lots_state a_now_lots_byLast, rI cI a_now_lots_last 24 c_now_lots_last, rI cI a_rest 24 oc_rest] t.heap) (va_A [oX7 a0 a_now a_past c_acts c_nextSlot a_plan a_picker a_rest a_packed, oX6 a_now c_now_today c_now_products c_now_itemCount a_now_items a_now_books a_now_terms a_now_shelves a_now_lots a_now_orders, oX5 a_now_shelves c_now_shelves_lanes c_now_shelves_positions c_now_shelves_room c_now_shelves_gap c_now_shelves_places c_now_shelves_picked a_now_shelves_lot a_now_shelves_pieces a_now_shelves_mark a_now_shelves_byDistance, rI cI a_now_shelves_lot 48 c_now_shelves_lot, rI cI a_now_shelves_pieces 48 c_now_shelves_pieces, oX1 a_now_lots c_now_lots_count a_now_lots_product a_now_lots_last a_now_lots_cost a_now_lots_state a_now_lots_byLast, rI cI a_now_lots_last 24 c_now_lots_last, rI cI a_rest 24 c_rest] sz)) 0 0 (va_A [oX7 a0 a_now a_past c_acts c_nextSlot a_plan a_picker a_rest a_packed, oX6 a_now c_now_today c_now_products c_now_itemCount a_now_items a_now_books a_now_terms a_now_shelves a_now_lots a_now_orders, oX5 a_now_shelves c_now_shelves_lanes c_now_shelves_positions c_now_shelves_room c_now_shelves_gap c_now_shelves_places c_now_shelves_picked a_now_shelves_lot a_now_shelves_pieces a_now_shelves_mark a_now_shelves_byDistance, rI cI a_now_shelves_lot 48 c_now_shelves_lot, rI cI a_now_shelves_pieces 48 c_now_shelves_pieces, oX1 a_now_lots c_now_lots_count a_now_lots_product a_now_lots_last a_now_lots_cost a_now_lots_state a_now_lots_byLast, rI cI a_now_lots_last 24 c_now_lots_last, rI cI a_rest 24 c_rest] sz) := by
  refine MetD.ofW (cc := cX7_meanLife) (maxL := 6) (ret := (some .double)) (by decide) rfl ?_
  intro p e s m args below meth c s₁ B hml hv hd0
  obtain ⟨rfl, hsz, hP, hK, hD0, hB0, hE⟩ := hv
  subst hsz
  have hx := B.exec
  have hb := B.bytes
  have hr := B.returns
  have hts := atoms_spec (ws := (wz yX7_meanLife cX7_meanLife 6 (some .double))) B.pre
  have hown : s.vm.findClass RX7 = some m.cls := findClass_of_methodNamed B.named
  have hlocks := B.notSynchronized
  have hD := hD0.self (sz := s.heap.size)
  have hAB : ∀ q : Nat, va_A [oX7 a0 a_now a_past c_acts c_nextSlot a_plan a_picker a_rest a_packed, oX6 a_now c_now_today c_now_products c_now_itemCount a_now_items a_now_books a_now_terms a_now_shelves a_now_lots a_now_orders, oX5 a_now_shelves c_now_shelves_lanes c_now_shelves_positions c_now_shelves_room c_now_shelves_gap c_now_shelves_places c_now_shelves_picked a_now_shelves_lot a_now_shelves_pieces a_now_shelves_mark a_now_shelves_byDistance, rI cI a_now_shelves_lot 48 c_now_shelves_lot, rI cI a_now_shelves_pieces 48 c_now_shelves_pieces, oX1 a_now_lots c_now_lots_count a_now_lots_product a_now_lots_last a_now_lots_cost a_now_lots_state a_now_lots_byLast, rI cI a_now_lots_last 24 c_now_lots_last, rI cI a_rest 24 c_rest] s.heap.size q → B0 ≤ q := va_A_B hD0 hB0
  generalize hAe : va_A [oX7 a0 a_now a_past c_acts c_nextSlot a_plan a_picker a_rest a_packed, oX6 a_now c_now_today c_now_products c_now_itemCount a_now_items a_now_books a_now_terms a_now_shelves a_now_lots a_now_orders, oX5 a_now_shelves c_now_shelves_lanes c_now_shelves_positions c_now_shelves_room c_now_shelves_gap c_now_shelves_places c_now_shelves_picked a_now_shelves_lot a_now_shelves_pieces a_now_shelves_mark a_now_shelves_byDistance, rI cI a_now_shelves_lot 48 c_now_shelves_lot, rI cI a_now_shelves_pieces 48 c_now_shelves_pieces, oX1 a_now_lots c_now_lots_count a_now_lots_product a_now_lots_last a_now_lots_cost a_now_lots_state a_now_lots_byLast, rI cI a_now_lots_last 24 c_now_lots_last, rI cI a_rest 24 c_rest] s.heap.size = A at hD hAB ⊢
  have hA : ∀ q : Nat, s.heap.size ≤ q → A q := fun q h => by rw [← hAe]; exact Or.inr h
  have hFa := hA
  have hS : va_S A s.heap s.heap [] := va_S.rf
  have hBn := fun (H : Heap) (locs : List Loc) (h : va_S A s.heap H locs) => Nat.le_trans hB0 h.1
  have hEn := fun (H : Heap) (locs : List Loc) (h : va_S A s.heap H locs) => gE_now hE h hAB
  have hl := lv_entry ([.ref a0]) (n := 6) (Nat.le_of_ble_eq_true rfl)
  rw [lg_entry_eq]
  generalize (lg_sl ([.ref a0]) ++ List.replicate (6 - (lg_sl ([.ref a0])).length) Slot.unset).toArray = ls at hl ⊢
  have hl : lv_has ls 6 [(0, .ref a0)] := hl
  obtain ⟨H, hHe⟩ : ∃ H : Heap, H = s.heap := ⟨_, rfl⟩
  have hP : va_P D vwCl [oX7 a0 a_now a_past c_acts c_nextSlot a_plan a_picker a_rest a_packed, oX6 a_now c_now_today c_now_products c_now_itemCount a_now_items a_now_books a_now_terms a_now_shelves a_now_lots a_now_orders, oX5 a_now_shelves c_now_shelves_lanes c_now_shelves_positions c_now_shelves_room c_now_shelves_gap c_now_shelves_places c_now_shelves_picked a_now_shelves_lot a_now_shelves_pieces a_now_shelves_mark a_now_shelves_byDistance, rI cI a_now_shelves_lot 48 c_now_shelves_lot, rI cI a_now_shelves_pieces 48 c_now_shelves_pieces, oX1 a_now_lots c_now_lots_count a_now_lots_product a_now_lots_last a_now_lots_cost a_now_lots_state a_now_lots_byLast, rI cI a_now_lots_last 24 c_now_lots_last, rI cI a_rest 24 c_rest] H := by rw [hHe]; exact hP
  have hS : va_S A s.heap H [] := by rw [hHe]; exact hS
  refine W_unbase ?_
  refine W_heq hHe ?_
  unfold f_X7_meanLife at hf
  refine gen_goW (fun WW hWW => ?_)
  have hL21 : ∀ (n : Nat) (c_rest : Nat → Int32) (n1 : Int64) (n3 : Int64) (n5 : Int32) (e1 : Int64) (e3 : Int64), loop (fun z => f_X7_meanLife_L21 c_now_today c_now_shelves_places c_now_shelves_lot c_now_shelves_pieces c_now_lots_count c_now_lots_last c_rest z.1 z.2.1 z.2.2) n (n1, n3, n5) = some (e1, e3) → (∀ (H : Heap) (locs : List Loc) (ls : Array Slot), va_P D vwCl [oX7 a0 a_now a_past c_acts c_nextSlot a_plan a_picker a_rest a_packed, oX6 a_now c_now_today c_now_products c_now_itemCount a_now_items a_now_books a_now_terms a_now_shelves a_now_lots a_now_orders, oX5 a_now_shelves c_now_shelves_lanes c_now_shelves_positions c_now_shelves_room c_now_shelves_gap c_now_shelves_places c_now_shelves_picked a_now_shelves_lot a_now_shelves_pieces a_now_shelves_mark a_now_shelves_byDistance, rI cI a_now_shelves_lot 48 c_now_shelves_lot, rI cI a_now_shelves_pieces 48 c_now_shelves_pieces, oX1 a_now_lots c_now_lots_count a_now_lots_product a_now_lots_last a_now_lots_cost a_now_lots_state a_now_lots_byLast, rI cI a_now_lots_last 24 c_now_lots_last, rI cI a_rest 24 c_rest] H → va_D A [oX7 a0 a_now a_past c_acts c_nextSlot a_plan a_picker a_rest a_packed, oX6 a_now c_now_today c_now_products c_now_itemCount a_now_items a_now_books a_now_terms a_now_shelves a_now_lots a_now_orders, oX5 a_now_shelves c_now_shelves_lanes c_now_shelves_positions c_now_shelves_room c_now_shelves_gap c_now_shelves_places c_now_shelves_picked a_now_shelves_lot a_now_shelves_pieces a_now_shelves_mark a_now_shelves_byDistance, rI cI a_now_shelves_lot 48 c_now_shelves_lot, rI cI a_now_shelves_pieces 48 c_now_shelves_pieces, oX1 a_now_lots c_now_lots_count a_now_lots_product a_now_lots_last a_now_lots_cost a_now_lots_state a_now_lots_byLast, rI cI a_now_lots_last 24 c_now_lots_last, rI cI a_rest 24 c_rest] → va_S A s.heap H locs → lv_has ls 6 [(1, .long e1), (3, .long e3)] → WW H locs 0 0 (F0 m 87 ls [])) → ∀ (H : Heap) (locs : List Loc) (ls : Array Slot), va_P D vwCl [oX7 a0 a_now a_past c_acts c_nextSlot a_plan a_picker a_rest a_packed, oX6 a_now c_now_today c_now_products c_now_itemCount a_now_items a_now_books a_now_terms a_now_shelves a_now_lots a_now_orders, oX5 a_now_shelves c_now_shelves_lanes c_now_shelves_positions c_now_shelves_room c_now_shelves_gap c_now_shelves_places c_now_shelves_picked a_now_shelves_lot a_now_shelves_pieces a_now_shelves_mark a_now_shelves_byDistance, rI cI a_now_shelves_lot 48 c_now_shelves_lot, rI cI a_now_shelves_pieces 48 c_now_shelves_pieces, oX1 a_now_lots c_now_lots_count a_now_lots_product a_now_lots_last a_now_lots_cost a_now_lots_state a_now_lots_byLast, rI cI a_now_lots_last 24 c_now_lots_last, rI cI a_rest 24 c_rest] H → va_D A [oX7 a0 a_now a_past c_acts c_nextSlot a_plan a_picker a_rest a_packed, oX6 a_now c_now_today c_now_products c_now_itemCount a_now_items a_now_books a_now_terms a_now_shelves a_now_lots a_now_orders, oX5 a_now_shelves c_now_shelves_lanes c_now_shelves_positions c_now_shelves_room c_now_shelves_gap c_now_shelves_places c_now_shelves_picked a_now_shelves_lot a_now_shelves_pieces a_now_shelves_mark a_now_shelves_byDistance, rI cI a_now_shelves_lot 48 c_now_shelves_lot, rI cI a_now_shelves_pieces 48 c_now_shelves_pieces, oX1 a_now_lots c_now_lots_count a_now_lots_product a_now_lots_last a_now_lots_cost a_now_lots_state a_now_lots_byLast, rI cI a_now_lots_last 24 c_now_lots_last, rI cI a_rest 24 c_rest] → va_S A s.heap H locs → lv_has ls 6 [(0, .ref a0), (1, .long n1), (3, .long n3), (5, .int n5)] → WW H locs 0 0 (F0 m 21 ls []) := by
    intro n
    induction n with
    | zero =>
      intro c_rest n1 n3 n5 e1 e3 hlp
      exact absurd hlp (by simp [loop])
    | succ n ih =>
      intro c_rest n1 n3 n5 e1 e3 hlp K H locs ls hP hD hS hl
      obtain ⟨x9, hf, hlp⟩ := loop_s hlp
      have hf : f_X7_meanLife_L21 c_now_today c_now_shelves_places c_now_shelves_lot c_now_shelves_pieces c_now_lots_count c_now_lots_last c_rest n1 n3 n5 = some x9 := hf
      unfold f_X7_meanLife_L21 at hf
      refine (hWW _ _ _ _ _).mpr ?_
      refine lv_iload hx hb dX7_meanLife_21 (lv_at hl 3 rfl) ?_
      refine lv_aload_n hx hb dX7_meanLife_23 rfl (lv_at hl 0 rfl) ?_
      refine va_get (D := D) (ci := 6) (v := .ref a_now) (C := RX7) (T := TX7) (N := 8) hx hb hts (fun w h => mb (iX7 w h)) hown hK hP 0 rfl rfl 0 (by decide) (hts _ (mb tb_270)) (fun _ h9 => h9) rfl dX7_meanLife_24 ?_
      refine va_get (D := D) (ci := 5) (v := .ref a_now_lots) (C := RX6) (T := TX6) (N := 9) hx hb hts (fun w h => mb (iX6 w h)) hown hK hP 1 rfl rfl 7 (by decide) (hts _ (mb tb_171)) (fun _ h9 => h9) rfl dX7_meanLife_27 ?_
      refine va_get (D := D) (ci := 0) (v := .int c_now_lots_count) (C := RX1) (T := TX1) (N := 6) hx hb hts (fun w h => mb (iX1 w h)) hown hK hP 5 rfl rfl 0 (by decide) (hts _ (mb tb_89)) (fun _ h9 => h9) rfl dX7_meanLife_30 ?_
      refine lv_icmp_ge (tgt := 87) hx hb dX7_meanLife_33 (by decide) (fun h4 => ?_) (fun h4 => ?_)
      · have hf := ipos h4 hf
        obtain rfl := Option.some.inj hf
        cases lpx_r hlp
        exact (hWW _ _ _ _ _).mp (K _ _ ls hP hD hS (lv_sub hl [1, 2] rfl))
      · have hf := ineg h4 hf
        refine lv_lload_n hx hb dX7_meanLife_36 rfl (lv_at hl 1 rfl) ?_
        refine lv_aload_n hx hb dX7_meanLife_37 rfl (lv_at hl 0 rfl) ?_
        refine va_get (D := D) (ci := 6) (v := .ref a_now) (C := RX7) (T := TX7) (N := 8) hx hb hts (fun w h => mb (iX7 w h)) hown hK hP 0 rfl rfl 0 (by decide) (hts _ (mb tb_270)) (fun _ h9 => h9) rfl dX7_meanLife_38 ?_
        refine va_get (D := D) (ci := 5) (v := .ref a_now_lots) (C := RX6) (T := TX6) (N := 9) hx hb hts (fun w h => mb (iX6 w h)) hown hK hP 1 rfl rfl 7 (by decide) (hts _ (mb tb_171)) (fun _ h9 => h9) rfl dX7_meanLife_41 ?_
        refine va_get (D := D) (ci := 0) (v := .ref a_now_lots_last) (C := RX1) (T := TX1) (N := 6) hx hb hts (fun w h => mb (iX1 w h)) hown hK hP 5 rfl rfl 2 (by decide) (hts _ (mb tb_93)) (fun _ h9 => h9) rfl dX7_meanLife_44 ?_
        refine lv_iload hx hb dX7_meanLife_47 (lv_at hl 3 rfl) ?_
        obtain ⟨h5, hf⟩ := ob_d hf
        refine va_iald hx hb hK hP 6 0 rfl rfl h5 dX7_meanLife_49 ?_
        refine lv_aload_n hx hb dX7_meanLife_50 rfl (lv_at hl 0 rfl) ?_
        refine va_get (D := D) (ci := 6) (v := .ref a_now) (C := RX7) (T := TX7) (N := 8) hx hb hts (fun w h => mb (iX7 w h)) hown hK hP 0 rfl rfl 0 (by decide) (hts _ (mb tb_270)) (fun _ h9 => h9) rfl dX7_meanLife_51 ?_
        refine va_get (D := D) (ci := 5) (v := .int c_now_today) (C := RX6) (T := TX6) (N := 9) hx hb hts (fun w h => mb (iX6 w h)) hown hK hP 1 rfl rfl 0 (by decide) (hts _ (mb tb_157)) (fun _ h9 => h9) rfl dX7_meanLife_54 ?_
        refine lv_isub hx hb dX7_meanLife_57 ?_
        refine lv_i2l hx hb dX7_meanLife_58 rfl ?_
        refine lv_aload_n hx hb dX7_meanLife_59 rfl (lv_at hl 0 rfl) ?_
        refine va_get (D := D) (ci := 6) (v := .ref a_rest) (C := RX7) (T := TX7) (N := 8) hx hb hts (fun w h => mb (iX7 w h)) hown hK hP 0 rfl rfl 6 (by decide) (hts _ (mb tb_276)) (fun _ h9 => h9) rfl dX7_meanLife_60 ?_
        refine lv_iload hx hb dX7_meanLife_63 (lv_at hl 3 rfl) ?_
        obtain ⟨h6, hf⟩ := ob_d hf
        refine va_iald hx hb hK hP 7 0 rfl rfl h6 dX7_meanLife_65 ?_
        refine lv_i2l hx hb dX7_meanLife_66 rfl ?_
        refine lv_lmul hx hb dX7_meanLife_67 ?_
        refine lv_ladd hx hb dX7_meanLife_68 ?_
        refine lv_lstore_n (lv' := [(1, .long (n1 + ((((c_now_lots_last n5.toNatClampNeg) - c_now_today).toInt64) * ((c_rest n5.toNatClampNeg).toInt64)))), (0, .ref a0), (3, .long n3), (5, .int n5)]) hx hb dX7_meanLife_69 rfl hl (by decide) rfl (fun ls hl => ?_)
        refine lv_lload_n hx hb dX7_meanLife_70 rfl (lv_at hl 2 rfl) ?_
        refine lv_aload_n hx hb dX7_meanLife_71 rfl (lv_at hl 1 rfl) ?_
        refine va_get (D := D) (ci := 6) (v := .ref a_rest) (C := RX7) (T := TX7) (N := 8) hx hb hts (fun w h => mb (iX7 w h)) hown hK hP 0 rfl rfl 6 (by decide) (hts _ (mb tb_276)) (fun _ h9 => h9) rfl dX7_meanLife_72 ?_
        refine lv_iload hx hb dX7_meanLife_75 (lv_at hl 3 rfl) ?_
        obtain ⟨h7, hf⟩ := ob_d hf
        refine va_iald hx hb hK hP 7 0 rfl rfl h7 dX7_meanLife_77 ?_
        refine lv_i2l hx hb dX7_meanLife_78 rfl ?_
        refine lv_ladd hx hb dX7_meanLife_79 ?_
        refine lv_lstore_n (lv' := [(3, .long (n3 + ((c_rest n5.toNatClampNeg).toInt64))), (1, .long (n1 + ((((c_now_lots_last n5.toNatClampNeg) - c_now_today).toInt64) * ((c_rest n5.toNatClampNeg).toInt64)))), (0, .ref a0), (5, .int n5)]) hx hb dX7_meanLife_80 rfl hl (by decide) rfl (fun ls hl => ?_)
        refine lv_iinc (v := (n5 + 1)) (lv' := [(5, .int (n5 + 1)), (3, .long (n3 + ((c_rest n5.toNatClampNeg).toInt64))), (1, .long (n1 + ((((c_now_lots_last n5.toNatClampNeg) - c_now_today).toInt64) * ((c_rest n5.toNatClampNeg).toInt64)))), (0, .ref a0)]) hx hb dX7_meanLife_81 hl (k := 3) rfl rfl (by decide) rfl (fun ls hl => ?_)
        refine lv_goto (tgt := 21) hx hb dX7_meanLife_84 (by decide) ?_
        obtain rfl := Option.some.inj hf
        exact (hWW _ _ _ _ _).mp (ih _ _ _ _ _ _ hlp K _ _ ls hP hD hS (lv_sub hl [3, 2, 1, 0] rfl))
  refine (hWW _ _ _ _ _).mpr ?_
  refine lv_lconst (v := 0) hx hb dX7_meanLife_0 (by decide) ?_
  refine lv_lstore_n (lv' := [(1, .long 0), (0, .ref a0)]) hx hb dX7_meanLife_1 rfl hl (by decide) rfl (fun ls hl => ?_)
  refine lv_lconst (v := 0) hx hb dX7_meanLife_2 (by decide) ?_
  refine lv_lstore_n (lv' := [(3, .long 0), (1, .long 0), (0, .ref a0)]) hx hb dX7_meanLife_3 rfl hl (by decide) rfl (fun ls hl => ?_)
  refine lv_aload_n hx hb dX7_meanLife_4 rfl (lv_at hl 2 rfl) ?_
  refine va_get (D := D) (ci := 6) (v := .ref a_now) (C := RX7) (T := TX7) (N := 8) hx hb hts (fun w h => mb (iX7 w h)) hown hK hP 0 rfl rfl 0 (by decide) (hts _ (mb tb_270)) (fun _ h9 => h9) rfl dX7_meanLife_5 ?_
  refine va_get (D := D) (ci := 5) (v := .ref a_now_shelves) (C := RX6) (T := TX6) (N := 9) hx hb hts (fun w h => mb (iX6 w h)) hown hK hP 1 rfl rfl 6 (by decide) (hts _ (mb tb_169)) (fun _ h9 => h9) rfl dX7_meanLife_8 ?_
  refine lv_aload_n hx hb dX7_meanLife_11 rfl (lv_at hl 2 rfl) ?_
  refine va_get (D := D) (ci := 6) (v := .ref a_rest) (C := RX7) (T := TX7) (N := 8) hx hb hts (fun w h => mb (iX7 w h)) hown hK hP 0 rfl rfl 6 (by decide) (hts _ (mb tb_276)) (fun _ h9 => h9) rfl dX7_meanLife_12 ?_
  obtain ⟨o3, hc2, hf⟩ := ob1 hf
  refine rw_callv (va_runV (As := [.ref a_rest]) (rest := []) ⟨hx, hb, hml, hown, hts⟩ (k_X5_countLots l hl0 D cI cJ cZ cS B0 H.size a_now_shelves a_now_shelves_lot a_now_shelves_pieces a_now_shelves_mark a_now_shelves_byDistance a_rest c_now_shelves_lanes c_now_shelves_positions c_now_shelves_room c_now_shelves_gap c_now_shelves_places c_now_shelves_picked c_now_shelves_lot c_now_shelves_pieces c_rest o3 hc2) (cwV 1 hts (gV tb_342 tb_343 tb_344 tb_3 tb_345) rfl rfl rfl (by decide +kernel) ⟨Nat.le_of_ble_eq_true rfl, Nat.le_of_ble_eq_true rfl⟩) ⟨wp_blind, va_recv hK hP (ci := 4) (q0 := 2) rfl rfl, wp_pre (hP.sub [2, 3, 4, 7] rfl) hK (va_D.sub (hD.weaken (fun _ _ _ h9 => hAB _ h9)) [2, 3, 4, 7] rfl rfl) (hBn _ _ hS) (hEn _ _ hS)⟩ rfl rfl hl.1 rfl (lv_room (Nat.le_of_ble_eq_true rfl)) dX7_meanLife_15 ⟨Nat.le_of_ble_eq_true rfl, Nat.le_of_ble_eq_true rfl⟩) hP hD hS hA [oX7 a0 a_now a_past c_acts c_nextSlot a_plan a_picker a_rest a_packed, oX6 a_now c_now_today c_now_products c_now_itemCount a_now_items a_now_books a_now_terms a_now_shelves a_now_lots a_now_orders, oX5 a_now_shelves c_now_shelves_lanes c_now_shelves_positions c_now_shelves_room c_now_shelves_gap c_now_shelves_places c_now_shelves_picked a_now_shelves_lot a_now_shelves_pieces a_now_shelves_mark a_now_shelves_byDistance, rI cI a_now_shelves_lot 48 c_now_shelves_lot, rI cI a_now_shelves_pieces 48 c_now_shelves_pieces, oX1 a_now_lots c_now_lots_count a_now_lots_product a_now_lots_last a_now_lots_cost a_now_lots_state a_now_lots_byLast, rI cI a_now_lots_last 24 c_now_lots_last, rI cI a_rest 24 o3] 8 [2, 3, 4, 7] [0, 1, 5, 6] rfl rfl rfl rfl (by decide +kernel) rfl (fun H locs hP hD hS => ?_)
  refine lv_iconst (v := 0) hx hb dX7_meanLife_18 (by decide) ?_
  refine lv_istore (lv' := [(5, .int 0), (3, .long 0), (1, .long 0), (0, .ref a0)]) hx hb dX7_meanLife_19 hl (by decide) rfl (fun ls hl => ?_)
  obtain ⟨m9, m10, hc8, hf⟩ := ob2 hf
  refine (hWW _ _ _ _ _).mp (hL21 fu _ _ _ _ _ _ hc8 (fun H locs ls hP hD hS hl => ?_) _ _ ls hP hD hS (lv_sub hl [3, 2, 1, 0] rfl))
  · refine (hWW _ _ _ _ _).mpr ?_
    refine lv_lload_n hx hb dX7_meanLife_87 rfl (lv_at hl 1 rfl) ?_
    refine lv_lconst (v := 0) hx hb dX7_meanLife_88 (by decide) ?_
    refine W.lcmp hx hb dX7_meanLife_89 ?_
    refine lv_if_ne (tgt := 97) hx hb dX7_meanLife_90 (by decide) (fun h11 => ?_) (fun h11 => ?_)
    · have hf := ineg h11 hf
      refine lv_lload_n hx hb dX7_meanLife_97 rfl (lv_at hl 0 rfl) ?_
      refine lv_l2d hx hb dX7_meanLife_98 ?_
      refine lv_lload_n hx hb dX7_meanLife_99 rfl (lv_at hl 1 rfl) ?_
      refine lv_l2d hx hb dX7_meanLife_100 ?_
      refine W.base ?_
      refine lv_ddiv_any hd0 lw_bits hx hb dX7_meanLife_101 (fun r9v d1 hal hd1 => ?_)
      cases hf
      refine W.endD hd1 ?_
      exact W.dret hx hb hr (fun t ht hW => ⟨⟨_, (), rfl, hal, (by show va_P D vwCl _ t.heap; rw [ht]; exact hP)⟩, hS.F ht⟩) hS.2.2 dX7_meanLife_102 (hlocks := hlocks)
    · have hf := ipos h11 hf
      refine lv_dconst0 hx hb dX7_meanLife_93 ?_
      refine lv_goto (tgt := 102) hx hb dX7_meanLife_94 (by decide) ?_
      cases hf
      refine W.base ?_
      refine W.endD hd0 ?_
      exact W.dret hx hb hr (fun t ht hW => ⟨⟨_, (), rfl, (by decide), (by show va_P D vwCl _ t.heap; rw [ht]; exact hP)⟩, hS.F ht⟩) hS.2.2 dX7_meanLife_102 (hlocks := hlocks)
def f_X7_givenShare_L6 (c_now_orders_count : Int32) (c_now_orders_open : Nat → Int32) (c_now_orders_had : Nat → Int32) (n1 : Int32) (n2 : Int32) (n3 : Int32) : Option ((Int32 × Int32 × Int32) ⊕ (Int32 × Int32)) :=
  (if c_now_orders_count ≤ n3 then some (.inr (n1, n2))
  else bnd1 (f_X2_piecesAt n3 c_now_orders_count c_now_orders_had) (fun r2 =>
  (gd n3 40 (some (.inl (n1 + r2, n2 + (c_now_orders_open n3.toNatClampNeg), n3 + 1))))))
def f_X7_givenShare (c_now_orders_count : Int32) (c_now_orders_open : Nat → Int32) (c_now_orders_had : Nat → Int32) : Option (UInt32) :=
  (bnd2 (loop (fun z => f_X7_givenShare_L6 c_now_orders_count c_now_orders_open c_now_orders_had z.1 z.2.1 z.2.2) fu (0, 0, 0)) fun m6 m7 =>
  (if (m6 + m7) = 0 then some 0
  else some (FP.fdiv (FP.i2f m6) (FP.i2f (m6 + m7)))))
set_option maxHeartbeats 4000000 in
set_option maxRecDepth 100000 in
theorem k_X7_givenShare (l : Launch) (hl0 : l.stackTraces = false) (D : va_G) (cI cJ cZ cS : ClassId) (B0 : Nat) (H0 : Heap) (a0 a_now a_past a_plan a_picker a_rest a_packed a_now_items a_now_books a_now_terms a_now_shelves a_now_lots a_now_orders a_now_orders_customer a_now_orders_product a_now_orders_open a_now_orders_due a_now_orders_life a_now_orders_byDue a_now_orders_had a_now_orders_stamps : Nat) (c_acts : Int32) (c_nextSlot : Int32) (c_now_today : Int32) (c_now_products : Int32) (c_now_itemCount : Int32) (c_now_orders_count : Int32) (c_now_orders_gifts : Int32) (c_now_orders_open : Nat → Int32) (c_now_orders_had : Nat → Int32) (r9 : UInt32)  (hf : f_X7_givenShare c_now_orders_count c_now_orders_open c_now_orders_had = some r9) : MetD lw_cs l yX7_givenShare (wz yX7_givenShare cX7_givenShare 4 (some .float)) ({ frames := 4, cells := 0, slots := 0, locals := 88 }) (va_Pc [.ref a0] (rp D cI cJ cZ cS B0 [oX7 a0 a_now a_past c_acts c_nextSlot a_plan a_picker a_rest a_packed, oX6 a_now c_now_today c_now_products c_now_itemCount a_now_items a_now_books a_now_terms a_now_shelves a_now_lots a_now_orders, oX2 a_now_orders c_now_orders_count c_now_orders_gifts a_now_orders_customer a_now_orders_product a_now_orders_open a_now_orders_due a_now_orders_life a_now_orders_byDue a_now_orders_had a_now_orders_stamps, rI cI a_now_orders_open 40 c_now_orders_open, rI cI a_now_orders_had 960 c_now_orders_had] H0)) (va_Qf (fun (r2 : UInt32) (_ : Unit) => alike32 r2 r9 = true) (fun _ t => t.heap = H0) (fun q => H0.size ≤ q)) 0 0 (fun q => H0.size ≤ q) := by
  refine MetD.ofW (cc := cX7_givenShare) (maxL := 4) (ret := (some .float)) (by decide) rfl ?_
  intro p e s m args below meth c s₁ B hml hv hd0
  obtain ⟨rfl, hH, hP, hK, hB0, hE⟩ := hv
  subst hH
  have hx := B.exec
  have hb := B.bytes
  have hr := B.returns
  have hts := atoms_spec (ws := (wz yX7_givenShare cX7_givenShare 4 (some .float))) B.pre
  have hown : s.vm.findClass RX7 = some m.cls := findClass_of_methodNamed B.named
  have hlocks := B.notSynchronized
  have hAB : ∀ q : Nat, s.heap.size ≤ q → B0 ≤ q := fun q h => Nat.le_trans hB0 h
  have hA : ∀ q : Nat, s.heap.size ≤ q → s.heap.size ≤ q := fun _ h => h
  have hS : va_S (fun q => s.heap.size ≤ q) s.heap s.heap [] := va_S.rf
  have hBn := fun (H : Heap) (locs : List Loc) (h : va_S (fun q => s.heap.size ≤ q) s.heap H locs) => Nat.le_trans hB0 h.1
  have hEn := fun (H : Heap) (locs : List Loc) (h : va_S (fun q => s.heap.size ≤ q) s.heap H locs) => gE_now hE h hAB
  have hl := lv_entry ([.ref a0]) (n := 4) (Nat.le_of_ble_eq_true rfl)
  rw [lg_entry_eq]
  generalize (lg_sl ([.ref a0]) ++ List.replicate (4 - (lg_sl ([.ref a0])).length) Slot.unset).toArray = ls at hl ⊢
  have hl : lv_has ls 4 [(0, .ref a0)] := hl
  obtain ⟨H, hHe⟩ : ∃ H : Heap, H = s.heap := ⟨_, rfl⟩
  have hP : va_P D vwCl [oX7 a0 a_now a_past c_acts c_nextSlot a_plan a_picker a_rest a_packed, oX6 a_now c_now_today c_now_products c_now_itemCount a_now_items a_now_books a_now_terms a_now_shelves a_now_lots a_now_orders, oX2 a_now_orders c_now_orders_count c_now_orders_gifts a_now_orders_customer a_now_orders_product a_now_orders_open a_now_orders_due a_now_orders_life a_now_orders_byDue a_now_orders_had a_now_orders_stamps, rI cI a_now_orders_open 40 c_now_orders_open, rI cI a_now_orders_had 960 c_now_orders_had] H := by rw [hHe]; exact hP
  have hS : va_S (fun q => s.heap.size ≤ q) s.heap H [] := by rw [hHe]; exact hS
  refine W_unbase ?_
  refine W_heq hHe ?_
  unfold f_X7_givenShare at hf
  refine gen_go (fun WW hWW => ?_)
  have hL6 : ∀ (n : Nat) (n1 : Int32) (n2 : Int32) (n3 : Int32) (e1 : Int32) (e2 : Int32), loop (fun z => f_X7_givenShare_L6 c_now_orders_count c_now_orders_open c_now_orders_had z.1 z.2.1 z.2.2) n (n1, n2, n3) = some (e1, e2) → (∀ (ls : Array Slot), lv_has ls 4 [(1, .int e1), (2, .int e2)] → WW (F0 m 55 ls [])) → ∀ (ls : Array Slot), lv_has ls 4 [(0, .ref a0), (1, .int n1), (2, .int n2), (3, .int n3)] → WW (F0 m 6 ls []) := by
    intro n
    induction n with
    | zero =>
      intro n1 n2 n3 e1 e2 hlp
      exact absurd hlp (by simp [loop])
    | succ n ih =>
      intro n1 n2 n3 e1 e2 hlp K ls hl
      obtain ⟨x9, hf, hlp⟩ := loop_s hlp
      have hf : f_X7_givenShare_L6 c_now_orders_count c_now_orders_open c_now_orders_had n1 n2 n3 = some x9 := hf
      unfold f_X7_givenShare_L6 at hf
      refine (hWW _).mpr ?_
      refine lv_iload_n hx hb dX7_givenShare_6 rfl (lv_at hl 3 rfl) ?_
      refine lv_aload_n hx hb dX7_givenShare_7 rfl (lv_at hl 0 rfl) ?_
      refine va_get (D := D) (ci := 6) (v := .ref a_now) (C := RX7) (T := TX7) (N := 8) hx hb hts (fun w h => mb (iX7 w h)) hown hK hP 0 rfl rfl 0 (by decide) (hts _ (mb tb_270)) (fun _ h9 => h9) rfl dX7_givenShare_8 ?_
      refine va_get (D := D) (ci := 5) (v := .ref a_now_orders) (C := RX6) (T := TX6) (N := 9) hx hb hts (fun w h => mb (iX6 w h)) hown hK hP 1 rfl rfl 8 (by decide) (hts _ (mb tb_173)) (fun _ h9 => h9) rfl dX7_givenShare_11 ?_
      refine va_get (D := D) (ci := 1) (v := .int c_now_orders_count) (C := RX2) (T := TX2) (N := 10) hx hb hts (fun w h => mb (iX2 w h)) hown hK hP 2 rfl rfl 0 (by decide) (hts _ (mb tb_120)) (fun _ h9 => h9) rfl dX7_givenShare_14 ?_
      refine lv_icmp_ge (tgt := 55) hx hb dX7_givenShare_17 (by decide) (fun h1 => ?_) (fun h1 => ?_)
      · have hf := ipos h1 hf
        obtain rfl := Option.some.inj hf
        cases lpx_r hlp
        exact (hWW _).mp (K ls (lv_sub hl [1, 2] rfl))
      · have hf := ineg h1 hf
        refine lv_iload_n hx hb dX7_givenShare_20 rfl (lv_at hl 1 rfl) ?_
        refine lv_aload_n hx hb dX7_givenShare_21 rfl (lv_at hl 0 rfl) ?_
        refine va_get (D := D) (ci := 6) (v := .ref a_now) (C := RX7) (T := TX7) (N := 8) hx hb hts (fun w h => mb (iX7 w h)) hown hK hP 0 rfl rfl 0 (by decide) (hts _ (mb tb_270)) (fun _ h9 => h9) rfl dX7_givenShare_22 ?_
        refine va_get (D := D) (ci := 5) (v := .ref a_now_orders) (C := RX6) (T := TX6) (N := 9) hx hb hts (fun w h => mb (iX6 w h)) hown hK hP 1 rfl rfl 8 (by decide) (hts _ (mb tb_173)) (fun _ h9 => h9) rfl dX7_givenShare_25 ?_
        refine lv_iload_n hx hb dX7_givenShare_28 rfl (lv_at hl 3 rfl) ?_
        obtain ⟨r2, hc3, hf⟩ := ob1 hf
        refine ro_calli (r := r2) (va_runV (As := [.int n3]) (rest := [.int n1]) ⟨hx, hb, hml, hown, hts⟩ (k_X2_piecesAt l hl0 D cI cJ cZ cS B0 H a_now_orders a_now_orders_customer a_now_orders_product a_now_orders_open a_now_orders_due a_now_orders_life a_now_orders_byDue a_now_orders_had a_now_orders_stamps c_now_orders_count c_now_orders_gifts c_now_orders_had n3 r2 hc3) (cwV 1 hts (gV tb_409 tb_410 tb_411 tb_5 tb_412) rfl rfl rfl (by decide +kernel) ⟨Nat.le_of_ble_eq_true rfl, Nat.le_of_ble_eq_true rfl⟩) ⟨rp_blind, va_recv hK hP (ci := 1) (q0 := 2) rfl rfl, rp_pre (hP.sub [2, 4] rfl) hK (hBn _ _ hS) (hEn _ _ hS)⟩ rfl rfl hl.1 rfl (lv_room (Nat.le_of_ble_eq_true rfl)) dX7_givenShare_29 ⟨Nat.le_of_ble_eq_true rfl, Nat.le_of_ble_eq_true rfl⟩) ?_
        refine lv_iadd hx hb dX7_givenShare_32 ?_
        refine lv_istore_n (lv' := [(1, .int (n1 + r2)), (0, .ref a0), (2, .int n2), (3, .int n3)]) hx hb dX7_givenShare_33 rfl hl (by decide) rfl (fun ls hl => ?_)
        refine lv_iload_n hx hb dX7_givenShare_34 rfl (lv_at hl 2 rfl) ?_
        refine lv_aload_n hx hb dX7_givenShare_35 rfl (lv_at hl 1 rfl) ?_
        refine va_get (D := D) (ci := 6) (v := .ref a_now) (C := RX7) (T := TX7) (N := 8) hx hb hts (fun w h => mb (iX7 w h)) hown hK hP 0 rfl rfl 0 (by decide) (hts _ (mb tb_270)) (fun _ h9 => h9) rfl dX7_givenShare_36 ?_
        refine va_get (D := D) (ci := 5) (v := .ref a_now_orders) (C := RX6) (T := TX6) (N := 9) hx hb hts (fun w h => mb (iX6 w h)) hown hK hP 1 rfl rfl 8 (by decide) (hts _ (mb tb_173)) (fun _ h9 => h9) rfl dX7_givenShare_39 ?_
        refine va_get (D := D) (ci := 1) (v := .ref a_now_orders_open) (C := RX2) (T := TX2) (N := 10) hx hb hts (fun w h => mb (iX2 w h)) hown hK hP 2 rfl rfl 4 (by decide) (hts _ (mb tb_127)) (fun _ h9 => h9) rfl dX7_givenShare_42 ?_
        refine lv_iload_n hx hb dX7_givenShare_45 rfl (lv_at hl 3 rfl) ?_
        obtain ⟨h4, hf⟩ := ob_d hf
        refine va_iald hx hb hK hP 3 0 rfl rfl h4 dX7_givenShare_46 ?_
        refine lv_iadd hx hb dX7_givenShare_47 ?_
        refine lv_istore_n (lv' := [(2, .int (n2 + (c_now_orders_open n3.toNatClampNeg))), (1, .int (n1 + r2)), (0, .ref a0), (3, .int n3)]) hx hb dX7_givenShare_48 rfl hl (by decide) rfl (fun ls hl => ?_)
        refine lv_iinc (v := (n3 + 1)) (lv' := [(3, .int (n3 + 1)), (2, .int (n2 + (c_now_orders_open n3.toNatClampNeg))), (1, .int (n1 + r2)), (0, .ref a0)]) hx hb dX7_givenShare_49 hl (k := 3) rfl rfl (by decide) rfl (fun ls hl => ?_)
        refine lv_goto (tgt := 6) hx hb dX7_givenShare_52 (by decide) ?_
        obtain rfl := Option.some.inj hf
        exact (hWW _).mp (ih  _ _ _ _ _ hlp K ls (lv_sub hl [3, 2, 1, 0] rfl))
  refine (hWW _).mpr ?_
  refine lv_iconst (v := 0) hx hb dX7_givenShare_0 (by decide) ?_
  refine lv_istore_n (lv' := [(1, .int 0), (0, .ref a0)]) hx hb dX7_givenShare_1 rfl hl (by decide) rfl (fun ls hl => ?_)
  refine lv_iconst (v := 0) hx hb dX7_givenShare_2 (by decide) ?_
  refine lv_istore_n (lv' := [(2, .int 0), (1, .int 0), (0, .ref a0)]) hx hb dX7_givenShare_3 rfl hl (by decide) rfl (fun ls hl => ?_)
  refine lv_iconst (v := 0) hx hb dX7_givenShare_4 (by decide) ?_
  refine lv_istore_n (lv' := [(3, .int 0), (2, .int 0), (1, .int 0), (0, .ref a0)]) hx hb dX7_givenShare_5 rfl hl (by decide) rfl (fun ls hl => ?_)
  obtain ⟨m6, m7, hc5, hf⟩ := ob2 hf
  refine (hWW _).mp (hL6 fu _ _ _ _ _ hc5 (fun ls hl => ?_) ls (lv_sub hl [3, 2, 1, 0] rfl))
  · refine (hWW _).mpr ?_
    refine lv_iload_n hx hb dX7_givenShare_55 rfl (lv_at hl 0 rfl) ?_
    refine lv_iload_n hx hb dX7_givenShare_56 rfl (lv_at hl 1 rfl) ?_
    refine lv_iadd hx hb dX7_givenShare_57 ?_
    refine lv_if_ne (tgt := 65) hx hb dX7_givenShare_58 (by decide) (fun h8 => ?_) (fun h8 => ?_)
    · have hf := ineg h8 hf
      refine lv_iload_n hx hb dX7_givenShare_65 rfl (lv_at hl 0 rfl) ?_
      refine lv_i2f hx hb dX7_givenShare_66 ?_
      refine lv_iload_n hx hb dX7_givenShare_67 rfl (lv_at hl 0 rfl) ?_
      refine lv_iload_n hx hb dX7_givenShare_68 rfl (lv_at hl 1 rfl) ?_
      refine lv_iadd hx hb dX7_givenShare_69 ?_
      refine lv_i2f hx hb dX7_givenShare_70 ?_
      refine W.base ?_
      refine lv_fdiv_any hd0 lw_bits hx hb dX7_givenShare_71 (fun r9v d1 hal hd1 => ?_)
      cases hf
      refine W.endD hd1 ?_
      exact W.fret hx hb hr (fun t ht hW => ⟨⟨_, (), rfl, hal, (ht.trans hHe)⟩, hS.F ht⟩) hS.2.2 dX7_givenShare_72 (hlocks := hlocks)
    · have hf := ipos h8 hf
      refine lv_fconst0 hx hb dX7_givenShare_61 ?_
      refine lv_goto (tgt := 72) hx hb dX7_givenShare_62 (by decide) ?_
      cases hf
      refine W.base ?_
      refine W.endD hd0 ?_
      exact W.fret hx hb hr (fun t ht hW => ⟨⟨_, (), rfl, (by decide), (ht.trans hHe)⟩, hS.F ht⟩) hS.2.2 dX7_givenShare_72 (hlocks := hlocks)
def f_X8_meanLife_L9_J65 (n2 : Int32) (t0 : Int32) (t1 : Int32) (c_raised : Int32) (c_w : Nat → Int32) : Option ((Int32 × Int32) ⊕ Int32) :=
  some (.inl (t0 + t1, n2 + 1))
def f_X8_meanLife_L9 (c_raised : Int32) (c_w : Nat → Int32) (n1 : Int32) (n2 : Int32) : Option ((Int32 × Int32) ⊕ Int32) :=
  bnd1 (f_X8_places c_w) (fun r1 =>
  ((if r1 ≤ n2 then some (.inr n1)
  else bnd1 (f_X8_isFree n2 c_w) (fun r4 =>
  ((if r4 = 0 then gd (63 + n2) 2450 (gd (15 + n2) 2450 (gd (231 + (c_w (15 + n2).toNatClampNeg)) 2450 (gd 0 2450 (f_X8_meanLife_L9_J65 n2 n1 ((c_w (63 + n2).toNatClampNeg) * ((c_w (231 + (c_w (15 + n2).toNatClampNeg)).toNatClampNeg) - (c_w (0 : Int32).toNatClampNeg))) c_raised c_w))))
  else f_X8_meanLife_L9_J65 n2 n1 0 c_raised c_w))))))
def f_X8_meanLife_J88 (n1 : Int32) (t0 : Int32) (c_raised : Int32) (c_w : Nat → Int32) : Option (UInt64 × Int32) :=
  some (FP.ddiv (FP.i2d n1) (FP.i2d t0), c_raised)
def f_X8_meanLife (c_raised : Int32) (c_w : Nat → Int32) : Option (UInt64 × Int32) :=
  (bnd1 (loop (fun z => f_X8_meanLife_L9 0 c_w z.1 z.2) fu (0, 0)) fun m12 =>
  bnd1 (f_X8_allPieces c_w) (fun r13 =>
  ((if r13 = 0 then f_X8_meanLife_J88 m12 1 0 c_w
  else bnd1 (f_X8_allPieces c_w) (fun r16 =>
  (f_X8_meanLife_J88 m12 r16 0 c_w))))))
set_option maxHeartbeats 4000000 in
set_option maxRecDepth 100000 in
theorem k_X8_meanLife (l : Launch) (hl0 : l.stackTraces = false) (D : va_G) (cI cJ cZ cS : ClassId) (B0 : Nat) (sz : Nat) (a0 a_w a_kept a_copy a_near a_isDone a_lane a_position a_least a_boxesOf a_staying a_planned a_scale : Nat) (c_raised : Int32) (c_undos : Int32) (c_eldest : Int32) (c_w : Nat → Int32) (r9 : UInt64) (oc_raised : Int32)  (hf : f_X8_meanLife c_raised c_w = some (r9, oc_raised)) : MetD lw_cs l yX8_meanLife (wz yX8_meanLife cX8_meanLife 3 (some .double)) ({ frames := 2, cells := 0, slots := 0, locals := 42 }) (va_Pc [.ref a0] (wp D cI cJ cZ cS B0 [oX8 a0 c_raised a_w a_kept a_copy c_undos c_eldest a_near a_isDone a_lane a_position a_least a_boxesOf a_staying a_planned a_scale, rI cI a_w 2450 c_w] sz)) (va_Qd (fun (r2 : UInt64) (_ : Unit) => alike64 r2 r9 = true) (fun _ t => va_P D vwCl [oX8 a0 oc_raised a_w a_kept a_copy c_undos c_eldest a_near a_isDone a_lane a_position a_least a_boxesOf a_staying a_planned a_scale, rI cI a_w 2450 c_w] t.heap) (va_A [oX8 a0 c_raised a_w a_kept a_copy c_undos c_eldest a_near a_isDone a_lane a_position a_least a_boxesOf a_staying a_planned a_scale, rI cI a_w 2450 c_w] sz)) 0 0 (va_A [oX8 a0 c_raised a_w a_kept a_copy c_undos c_eldest a_near a_isDone a_lane a_position a_least a_boxesOf a_staying a_planned a_scale, rI cI a_w 2450 c_w] sz) := by
  refine MetD.ofW (cc := cX8_meanLife) (maxL := 3) (ret := (some .double)) (by decide) rfl ?_
  intro p e s m args below meth c s₁ B hml hv hd0
  obtain ⟨rfl, hsz, hP, hK, hD0, hB0, hE⟩ := hv
  subst hsz
  have hx := B.exec
  have hb := B.bytes
  have hr := B.returns
  have hts := atoms_spec (ws := (wz yX8_meanLife cX8_meanLife 3 (some .double))) B.pre
  have hown : s.vm.findClass RX8 = some m.cls := findClass_of_methodNamed B.named
  have hlocks := B.notSynchronized
  have hD := hD0.self (sz := s.heap.size)
  have hAB : ∀ q : Nat, va_A [oX8 a0 c_raised a_w a_kept a_copy c_undos c_eldest a_near a_isDone a_lane a_position a_least a_boxesOf a_staying a_planned a_scale, rI cI a_w 2450 c_w] s.heap.size q → B0 ≤ q := va_A_B hD0 hB0
  generalize hAe : va_A [oX8 a0 c_raised a_w a_kept a_copy c_undos c_eldest a_near a_isDone a_lane a_position a_least a_boxesOf a_staying a_planned a_scale, rI cI a_w 2450 c_w] s.heap.size = A at hD hAB ⊢
  have hA : ∀ q : Nat, s.heap.size ≤ q → A q := fun q h => by rw [← hAe]; exact Or.inr h
  have hFa := hA
  have hS : va_S A s.heap s.heap [] := va_S.rf
  have hBn := fun (H : Heap) (locs : List Loc) (h : va_S A s.heap H locs) => Nat.le_trans hB0 h.1
  have hEn := fun (H : Heap) (locs : List Loc) (h : va_S A s.heap H locs) => gE_now hE h hAB
  have hl := lv_entry ([.ref a0]) (n := 3) (Nat.le_of_ble_eq_true rfl)
  rw [lg_entry_eq]
  generalize (lg_sl ([.ref a0]) ++ List.replicate (3 - (lg_sl ([.ref a0])).length) Slot.unset).toArray = ls at hl ⊢
  have hl : lv_has ls 3 [(0, .ref a0)] := hl
  obtain ⟨H, hHe⟩ : ∃ H : Heap, H = s.heap := ⟨_, rfl⟩
  have hP : va_P D vwCl [oX8 a0 c_raised a_w a_kept a_copy c_undos c_eldest a_near a_isDone a_lane a_position a_least a_boxesOf a_staying a_planned a_scale, rI cI a_w 2450 c_w] H := by rw [hHe]; exact hP
  have hS : va_S A s.heap H [] := by rw [hHe]; exact hS
  refine W_unbase ?_
  refine W_heq hHe ?_
  unfold f_X8_meanLife at hf
  refine gen_goW (fun WW hWW => ?_)
  have hL9 : ∀ (n : Nat) (c_raised : Int32) (n1 : Int32) (n2 : Int32) (e1 : Int32), loop (fun z => f_X8_meanLife_L9 c_raised c_w z.1 z.2) n (n1, n2) = some e1 → (∀ (H : Heap) (locs : List Loc) (ls : Array Slot), va_P D vwCl [oX8 a0 c_raised a_w a_kept a_copy c_undos c_eldest a_near a_isDone a_lane a_position a_least a_boxesOf a_staying a_planned a_scale, rI cI a_w 2450 c_w] H → va_D A [oX8 a0 c_raised a_w a_kept a_copy c_undos c_eldest a_near a_isDone a_lane a_position a_least a_boxesOf a_staying a_planned a_scale, rI cI a_w 2450 c_w] → va_S A s.heap H locs → lv_has ls 3 [(0, .ref a0), (1, .int e1)] → WW H locs 0 0 (F0 m 73 ls [])) → ∀ (H : Heap) (locs : List Loc) (ls : Array Slot), va_P D vwCl [oX8 a0 c_raised a_w a_kept a_copy c_undos c_eldest a_near a_isDone a_lane a_position a_least a_boxesOf a_staying a_planned a_scale, rI cI a_w 2450 c_w] H → va_D A [oX8 a0 c_raised a_w a_kept a_copy c_undos c_eldest a_near a_isDone a_lane a_position a_least a_boxesOf a_staying a_planned a_scale, rI cI a_w 2450 c_w] → va_S A s.heap H locs → lv_has ls 3 [(0, .ref a0), (1, .int n1), (2, .int n2)] → WW H locs 0 0 (F0 m 9 ls []) := by
    intro n
    induction n with
    | zero =>
      intro c_raised n1 n2 e1 hlp
      exact absurd hlp (by simp [loop])
    | succ n ih =>
      intro c_raised n1 n2 e1 hlp K H locs ls hP hD hS hl
      obtain ⟨x9, hf, hlp⟩ := loop_s hlp
      have hf : f_X8_meanLife_L9 c_raised c_w n1 n2 = some x9 := hf
      unfold f_X8_meanLife_L9 at hf
      have hJ65 : ∀ (n2 : Int32) (t0 : Int32) (t1 : Int32), f_X8_meanLife_L9_J65 n2 t0 t1 c_raised c_w = some x9 → ∀ (H : Heap) (locs : List Loc) (ls : Array Slot), va_P D vwCl [oX8 a0 c_raised a_w a_kept a_copy c_undos c_eldest a_near a_isDone a_lane a_position a_least a_boxesOf a_staying a_planned a_scale, rI cI a_w 2450 c_w] H → va_D A [oX8 a0 c_raised a_w a_kept a_copy c_undos c_eldest a_near a_isDone a_lane a_position a_least a_boxesOf a_staying a_planned a_scale, rI cI a_w 2450 c_w] → va_S A s.heap H locs → lv_has ls 3 [(0, .ref a0), (2, .int n2)] → WW H locs 0 0 (F0 m 65 ls [.int t1, .int t0]) := by
        intro n2 t0 t1 hf H locs ls hP hD hS hl
        unfold f_X8_meanLife_L9_J65 at hf
        refine (hWW _ _ _ _ _).mpr ?_
        refine lv_iadd hx hb dX8_meanLife_65 ?_
        refine lv_istore_n (lv' := [(1, .int (t0 + t1)), (0, .ref a0), (2, .int n2)]) hx hb dX8_meanLife_66 rfl hl (by decide) rfl (fun ls hl => ?_)
        refine lv_iinc (v := (n2 + 1)) (lv' := [(2, .int (n2 + 1)), (1, .int (t0 + t1)), (0, .ref a0)]) hx hb dX8_meanLife_67 hl (k := 2) rfl rfl (by decide) rfl (fun ls hl => ?_)
        refine lv_goto (tgt := 9) hx hb dX8_meanLife_70 (by decide) ?_
        obtain rfl := Option.some.inj hf
        exact (hWW _ _ _ _ _).mp (ih _ _ _ _ hlp K _ _ ls hP hD hS (lv_sub hl [2, 1, 0] rfl))
      refine (hWW _ _ _ _ _).mpr ?_
      refine lv_iload_n hx hb dX8_meanLife_9 rfl (lv_at hl 2 rfl) ?_
      refine lv_aload_n hx hb dX8_meanLife_10 rfl (lv_at hl 0 rfl) ?_
      obtain ⟨r1, hc2, hf⟩ := ob1 hf
      refine ro_calli (r := r1) (va_runV (As := []) (rest := [.int n2]) ⟨hx, hb, hml, hown, hts⟩ (k_X8_places l hl0 D cI cJ cZ cS B0 H a0 a_w a_kept a_copy a_near a_isDone a_lane a_position a_least a_boxesOf a_staying a_planned a_scale c_raised c_undos c_eldest c_w r1 hc2) (cwV 0 hts (gV tb_1076 tb_1078 ts_30 tb_9 tb_1079) rfl rfl rfl (by decide +kernel) ⟨Nat.le_of_ble_eq_true rfl, Nat.le_of_ble_eq_true rfl⟩) ⟨rp_blind, va_recv hK hP (ci := 7) (q0 := 0) rfl rfl, rp_pre (hP.sub [0, 1] rfl) hK (hBn _ _ hS) (hEn _ _ hS)⟩ rfl rfl hl.1 rfl (lv_room (Nat.le_of_ble_eq_true rfl)) dX8_meanLife_11 ⟨Nat.le_of_ble_eq_true rfl, Nat.le_of_ble_eq_true rfl⟩) ?_
      refine lv_icmp_ge (tgt := 73) hx hb dX8_meanLife_14 (by decide) (fun h3 => ?_) (fun h3 => ?_)
      · have hf := ipos h3 hf
        obtain rfl := Option.some.inj hf
        cases lpx_r hlp
        exact (hWW _ _ _ _ _).mp (K _ _ ls hP hD hS (lv_sub hl [0, 1] rfl))
      · have hf := ineg h3 hf
        refine lv_iload_n hx hb dX8_meanLife_17 rfl (lv_at hl 1 rfl) ?_
        refine lv_aload_n hx hb dX8_meanLife_18 rfl (lv_at hl 0 rfl) ?_
        refine lv_iload_n hx hb dX8_meanLife_19 rfl (lv_at hl 2 rfl) ?_
        obtain ⟨r4, hc5, hf⟩ := ob1 hf
        refine ro_calli (r := r4) (va_runV (As := [.int n2]) (rest := [.int n1]) ⟨hx, hb, hml, hown, hts⟩ (k_X8_isFree l hl0 D cI cJ cZ cS B0 H a0 a_w a_kept a_copy a_near a_isDone a_lane a_position a_least a_boxesOf a_staying a_planned a_scale c_raised c_undos c_eldest c_w n2 r4 hc5) (cwV 1 hts (gV tb_1182 tb_1184 ts_39 tb_9 tb_1185) rfl rfl rfl (by decide +kernel) ⟨Nat.le_of_ble_eq_true rfl, Nat.le_of_ble_eq_true rfl⟩) ⟨rp_blind, va_recv hK hP (ci := 7) (q0 := 0) rfl rfl, rp_pre (hP.sub [0, 1] rfl) hK (hBn _ _ hS) (hEn _ _ hS)⟩ rfl rfl hl.1 rfl (lv_room (Nat.le_of_ble_eq_true rfl)) dX8_meanLife_20 ⟨Nat.le_of_ble_eq_true rfl, Nat.le_of_ble_eq_true rfl⟩) ?_
        refine lv_if_eq (tgt := 30) hx hb dX8_meanLife_23 (by decide) (fun h6 => ?_) (fun h6 => ?_)
        · have hf := ipos h6 hf
          refine lv_aload_n hx hb dX8_meanLife_30 rfl (lv_at hl 0 rfl) ?_
          refine va_get (D := D) (ci := 7) (v := .ref a_w) (C := RX8) (T := TX8) (N := 15) hx hb hts (fun w h => mb (iX8 w h)) hown hK hP 0 rfl rfl 1 (by decide) (hts _ (mb tb_1097)) (fun _ h9 => h9) rfl dX8_meanLife_31 ?_
          refine lv_bipush (v := 63) hx hb dX8_meanLife_34 (by decide) ?_
          refine lv_iload_n hx hb dX8_meanLife_36 rfl (lv_at hl 2 rfl) ?_
          refine lv_iadd hx hb dX8_meanLife_37 ?_
          obtain ⟨h7, hf⟩ := ob_d hf
          refine va_iald hx hb hK hP 1 0 rfl rfl h7 dX8_meanLife_38 ?_
          refine lv_aload_n hx hb dX8_meanLife_39 rfl (lv_at hl 0 rfl) ?_
          refine va_get (D := D) (ci := 7) (v := .ref a_w) (C := RX8) (T := TX8) (N := 15) hx hb hts (fun w h => mb (iX8 w h)) hown hK hP 0 rfl rfl 1 (by decide) (hts _ (mb tb_1097)) (fun _ h9 => h9) rfl dX8_meanLife_40 ?_
          refine lv_sipush (v := 231) hx hb dX8_meanLife_43 (by decide) ?_
          refine lv_aload_n hx hb dX8_meanLife_46 rfl (lv_at hl 0 rfl) ?_
          refine va_get (D := D) (ci := 7) (v := .ref a_w) (C := RX8) (T := TX8) (N := 15) hx hb hts (fun w h => mb (iX8 w h)) hown hK hP 0 rfl rfl 1 (by decide) (hts _ (mb tb_1097)) (fun _ h9 => h9) rfl dX8_meanLife_47 ?_
          refine lv_bipush (v := 15) hx hb dX8_meanLife_50 (by decide) ?_
          refine lv_iload_n hx hb dX8_meanLife_52 rfl (lv_at hl 2 rfl) ?_
          refine lv_iadd hx hb dX8_meanLife_53 ?_
          obtain ⟨h8, hf⟩ := ob_d hf
          refine va_iald hx hb hK hP 1 0 rfl rfl h8 dX8_meanLife_54 ?_
          refine lv_iadd hx hb dX8_meanLife_55 ?_
          obtain ⟨h9, hf⟩ := ob_d hf
          refine va_iald hx hb hK hP 1 0 rfl rfl h9 dX8_meanLife_56 ?_
          refine lv_aload_n hx hb dX8_meanLife_57 rfl (lv_at hl 0 rfl) ?_
          refine va_get (D := D) (ci := 7) (v := .ref a_w) (C := RX8) (T := TX8) (N := 15) hx hb hts (fun w h => mb (iX8 w h)) hown hK hP 0 rfl rfl 1 (by decide) (hts _ (mb tb_1097)) (fun _ h9 => h9) rfl dX8_meanLife_58 ?_
          refine lv_iconst (v := 0) hx hb dX8_meanLife_61 (by decide) ?_
          obtain ⟨h10, hf⟩ := ob_d hf
          refine va_iald hx hb hK hP 1 0 rfl rfl h10 dX8_meanLife_62 ?_
          refine lv_isub hx hb dX8_meanLife_63 ?_
          refine lv_imul hx hb dX8_meanLife_64 ?_
          exact (hWW _ _ _ _ _).mp (hJ65 _ _ _ hf _ _ ls hP hD hS (lv_sub hl [0, 2] rfl))
        · have hf := ineg h6 hf
          refine lv_iconst (v := 0) hx hb dX8_meanLife_26 (by decide) ?_
          refine lv_goto (tgt := 65) hx hb dX8_meanLife_27 (by decide) ?_
          exact (hWW _ _ _ _ _).mp (hJ65 _ _ _ hf _ _ ls hP hD hS (lv_sub hl [0, 2] rfl))
  have hJ88 : ∀ (n1 : Int32) (t0 : Int32) (c_raised : Int32), f_X8_meanLife_J88 n1 t0 c_raised c_w = some (r9, oc_raised) → ∀ (H : Heap) (locs : List Loc) (ls : Array Slot), va_P D vwCl [oX8 a0 c_raised a_w a_kept a_copy c_undos c_eldest a_near a_isDone a_lane a_position a_least a_boxesOf a_staying a_planned a_scale, rI cI a_w 2450 c_w] H → va_D A [oX8 a0 c_raised a_w a_kept a_copy c_undos c_eldest a_near a_isDone a_lane a_position a_least a_boxesOf a_staying a_planned a_scale, rI cI a_w 2450 c_w] → va_S A s.heap H locs → lv_has ls 3 [(1, .int n1)] → WW H locs 0 0 (F0 m 88 ls [.int t0]) := by
    intro n1 t0 c_raised hf H locs ls hP hD hS hl
    unfold f_X8_meanLife_J88 at hf
    refine (hWW _ _ _ _ _).mpr ?_
    refine lv_istore_n (lv' := [(2, .int t0), (1, .int n1)]) hx hb dX8_meanLife_88 rfl hl (by decide) rfl (fun ls hl => ?_)
    refine lv_iload_n hx hb dX8_meanLife_89 rfl (lv_at hl 1 rfl) ?_
    refine lv_i2d hx hb dX8_meanLife_90 ?_
    refine lv_iload_n hx hb dX8_meanLife_91 rfl (lv_at hl 0 rfl) ?_
    refine lv_i2d hx hb dX8_meanLife_92 ?_
    refine W.base ?_
    refine lv_ddiv_any hd0 lw_bits hx hb dX8_meanLife_93 (fun r9v d1 hal hd1 => ?_)
    cases hf
    refine W.endD hd1 ?_
    exact W.dret hx hb hr (fun t ht hW => ⟨⟨_, (), rfl, hal, (by show va_P D vwCl _ t.heap; rw [ht]; exact hP)⟩, hS.F ht⟩) hS.2.2 dX8_meanLife_94 (hlocks := hlocks)
  refine (hWW _ _ _ _ _).mpr ?_
  refine lv_aload_n hx hb dX8_meanLife_0 rfl (lv_at hl 0 rfl) ?_
  refine lv_iconst (v := 0) hx hb dX8_meanLife_1 (by decide) ?_
  refine va_put (D := D) (ci := 7) (v := .int 0) (ty := .int) (C := RX8) (T := TX8) (N := 15) hx hb hts (fun w h => mb (iX8 w h)) tyX8 tyX8_ok nmX8 hown hK hP hD hS 0 rfl rfl 0 (by decide) (hts _ (mb tb_1096)) (fun _ h9 => h9) rfl (by decide +kernel) rfl rfl (Nat.le_of_ble_eq_true rfl) dX8_meanLife_2 (fun H locs hP hD hS => ?_)
  have hP : va_P D vwCl [oX8 a0 0 a_w a_kept a_copy c_undos c_eldest a_near a_isDone a_lane a_position a_least a_boxesOf a_staying a_planned a_scale, rI cI a_w 2450 c_w] H := hP
  have hD : va_D A [oX8 a0 0 a_w a_kept a_copy c_undos c_eldest a_near a_isDone a_lane a_position a_least a_boxesOf a_staying a_planned a_scale, rI cI a_w 2450 c_w] := hD
  refine lv_iconst (v := 0) hx hb dX8_meanLife_5 (by decide) ?_
  refine lv_istore_n (lv' := [(1, .int 0), (0, .ref a0)]) hx hb dX8_meanLife_6 rfl hl (by decide) rfl (fun ls hl => ?_)
  refine lv_iconst (v := 0) hx hb dX8_meanLife_7 (by decide) ?_
  refine lv_istore_n (lv' := [(2, .int 0), (1, .int 0), (0, .ref a0)]) hx hb dX8_meanLife_8 rfl hl (by decide) rfl (fun ls hl => ?_)
  obtain ⟨m12, hc11, hf⟩ := ob1 hf
  refine (hWW _ _ _ _ _).mp (hL9 fu _ _ _ _ hc11 (fun H locs ls hP hD hS hl => ?_) _ _ ls hP hD hS (lv_sub hl [2, 1, 0] rfl))
  · refine (hWW _ _ _ _ _).mpr ?_
    refine lv_aload_n hx hb dX8_meanLife_73 rfl (lv_at hl 0 rfl) ?_
    obtain ⟨r13, hc14, hf⟩ := ob1 hf
    refine ro_calli (r := r13) (va_runV (As := []) (rest := []) ⟨hx, hb, hml, hown, hts⟩ (k_X8_allPieces l hl0 D cI cJ cZ cS B0 H a0 a_w a_kept a_copy a_near a_isDone a_lane a_position a_least a_boxesOf a_staying a_planned a_scale 0 c_undos c_eldest c_w r13 hc14) (cwV 0 hts (gV tb_1515 tb_1517 ts_78 tb_9 tb_1518) rfl rfl rfl (by decide +kernel) ⟨Nat.le_of_ble_eq_true rfl, Nat.le_of_ble_eq_true rfl⟩) ⟨rp_blind, va_recv hK hP (ci := 7) (q0 := 0) rfl rfl, rp_pre (hP.sub [0, 1] rfl) hK (hBn _ _ hS) (hEn _ _ hS)⟩ rfl rfl hl.1 rfl (lv_room (Nat.le_of_ble_eq_true rfl)) dX8_meanLife_74 ⟨Nat.le_of_ble_eq_true rfl, Nat.le_of_ble_eq_true rfl⟩) ?_
    refine lv_if_ne (tgt := 84) hx hb dX8_meanLife_77 (by decide) (fun h15 => ?_) (fun h15 => ?_)
    · have hf := ineg h15 hf
      refine lv_aload_n hx hb dX8_meanLife_84 rfl (lv_at hl 0 rfl) ?_
      obtain ⟨r16, hc17, hf⟩ := ob1 hf
      refine ro_calli (r := r16) (va_runV (As := []) (rest := []) ⟨hx, hb, hml, hown, hts⟩ (k_X8_allPieces l hl0 D cI cJ cZ cS B0 H a0 a_w a_kept a_copy a_near a_isDone a_lane a_position a_least a_boxesOf a_staying a_planned a_scale 0 c_undos c_eldest c_w r16 hc17) (cwV 0 hts (gV tb_1515 tb_1517 ts_78 tb_9 tb_1518) rfl rfl rfl (by decide +kernel) ⟨Nat.le_of_ble_eq_true rfl, Nat.le_of_ble_eq_true rfl⟩) ⟨rp_blind, va_recv hK hP (ci := 7) (q0 := 0) rfl rfl, rp_pre (hP.sub [0, 1] rfl) hK (hBn _ _ hS) (hEn _ _ hS)⟩ rfl rfl hl.1 rfl (lv_room (Nat.le_of_ble_eq_true rfl)) dX8_meanLife_85 ⟨Nat.le_of_ble_eq_true rfl, Nat.le_of_ble_eq_true rfl⟩) ?_
      exact (hWW _ _ _ _ _).mp (hJ88 _ _ _ hf _ _ ls hP hD hS (lv_sub hl [1] rfl))
    · have hf := ipos h15 hf
      refine lv_iconst (v := 1) hx hb dX8_meanLife_80 (by decide) ?_
      refine lv_goto (tgt := 88) hx hb dX8_meanLife_81 (by decide) ?_
      exact (hWW _ _ _ _ _).mp (hJ88 _ _ _ hf _ _ ls hP hD hS (lv_sub hl [1] rfl))
def f_X8_givenShare_L11 (c_raised : Int32) (c_w : Nat → Int32) (n1 : Int32) (n2 : Int32) (n3 : Int32) : Option ((Int32 × Int32 × Int32) ⊕ (Int32 × Int32)) :=
  gd 7 2450 ((if (c_w (7 : Int32).toNatClampNeg) ≤ n3 then some (.inr (n1, n2))
  else bnd1 (f_X8_hasAll n3 c_w) (fun r3 =>
  (gd (383 + n3) 2450 (some (.inl (n1 + r3, n2 + (c_w (383 + n3).toNatClampNeg), n3 + 1)))))))
def f_X8_givenShare (c_raised : Int32) (c_w : Nat → Int32) : Option (UInt32 × Int32) :=
  (bnd2 (loop (fun z => f_X8_givenShare_L11 0 c_w z.1 z.2.1 z.2.2) fu (0, 0, 0)) fun m7 m8 =>
  (if (m7 + m8) = 0 then some (0, 0)
  else some (FP.fdiv (FP.i2f m7) (FP.i2f (m7 + m8)), 0)))
set_option maxHeartbeats 4000000 in
set_option maxRecDepth 100000 in
theorem k_X8_givenShare (l : Launch) (hl0 : l.stackTraces = false) (D : va_G) (cI cJ cZ cS : ClassId) (B0 : Nat) (sz : Nat) (a0 a_w a_kept a_copy a_near a_isDone a_lane a_position a_least a_boxesOf a_staying a_planned a_scale : Nat) (c_raised : Int32) (c_undos : Int32) (c_eldest : Int32) (c_w : Nat → Int32) (r9 : UInt32) (oc_raised : Int32)  (hf : f_X8_givenShare c_raised c_w = some (r9, oc_raised)) : MetD lw_cs l yX8_givenShare (wz yX8_givenShare cX8_givenShare 4 (some .float)) ({ frames := 2, cells := 0, slots := 0, locals := 45 }) (va_Pc [.ref a0] (wp D cI cJ cZ cS B0 [oX8 a0 c_raised a_w a_kept a_copy c_undos c_eldest a_near a_isDone a_lane a_position a_least a_boxesOf a_staying a_planned a_scale, rI cI a_w 2450 c_w] sz)) (va_Qf (fun (r2 : UInt32) (_ : Unit) => alike32 r2 r9 = true) (fun _ t => va_P D vwCl [oX8 a0 oc_raised a_w a_kept a_copy c_undos c_eldest a_near a_isDone a_lane a_position a_least a_boxesOf a_staying a_planned a_scale, rI cI a_w 2450 c_w] t.heap) (va_A [oX8 a0 c_raised a_w a_kept a_copy c_undos c_eldest a_near a_isDone a_lane a_position a_least a_boxesOf a_staying a_planned a_scale, rI cI a_w 2450 c_w] sz)) 0 0 (va_A [oX8 a0 c_raised a_w a_kept a_copy c_undos c_eldest a_near a_isDone a_lane a_position a_least a_boxesOf a_staying a_planned a_scale, rI cI a_w 2450 c_w] sz) := by
  refine MetD.ofW (cc := cX8_givenShare) (maxL := 4) (ret := (some .float)) (by decide) rfl ?_
  intro p e s m args below meth c s₁ B hml hv hd0
  obtain ⟨rfl, hsz, hP, hK, hD0, hB0, hE⟩ := hv
  subst hsz
  have hx := B.exec
  have hb := B.bytes
  have hr := B.returns
  have hts := atoms_spec (ws := (wz yX8_givenShare cX8_givenShare 4 (some .float))) B.pre
  have hown : s.vm.findClass RX8 = some m.cls := findClass_of_methodNamed B.named
  have hlocks := B.notSynchronized
  have hD := hD0.self (sz := s.heap.size)
  have hAB : ∀ q : Nat, va_A [oX8 a0 c_raised a_w a_kept a_copy c_undos c_eldest a_near a_isDone a_lane a_position a_least a_boxesOf a_staying a_planned a_scale, rI cI a_w 2450 c_w] s.heap.size q → B0 ≤ q := va_A_B hD0 hB0
  generalize hAe : va_A [oX8 a0 c_raised a_w a_kept a_copy c_undos c_eldest a_near a_isDone a_lane a_position a_least a_boxesOf a_staying a_planned a_scale, rI cI a_w 2450 c_w] s.heap.size = A at hD hAB ⊢
  have hA : ∀ q : Nat, s.heap.size ≤ q → A q := fun q h => by rw [← hAe]; exact Or.inr h
  have hFa := hA
  have hS : va_S A s.heap s.heap [] := va_S.rf
  have hBn := fun (H : Heap) (locs : List Loc) (h : va_S A s.heap H locs) => Nat.le_trans hB0 h.1
  have hEn := fun (H : Heap) (locs : List Loc) (h : va_S A s.heap H locs) => gE_now hE h hAB
  have hl := lv_entry ([.ref a0]) (n := 4) (Nat.le_of_ble_eq_true rfl)
  rw [lg_entry_eq]
  generalize (lg_sl ([.ref a0]) ++ List.replicate (4 - (lg_sl ([.ref a0])).length) Slot.unset).toArray = ls at hl ⊢
  have hl : lv_has ls 4 [(0, .ref a0)] := hl
  obtain ⟨H, hHe⟩ : ∃ H : Heap, H = s.heap := ⟨_, rfl⟩
  have hP : va_P D vwCl [oX8 a0 c_raised a_w a_kept a_copy c_undos c_eldest a_near a_isDone a_lane a_position a_least a_boxesOf a_staying a_planned a_scale, rI cI a_w 2450 c_w] H := by rw [hHe]; exact hP
  have hS : va_S A s.heap H [] := by rw [hHe]; exact hS
  refine W_unbase ?_
  refine W_heq hHe ?_
  unfold f_X8_givenShare at hf
  refine gen_goW (fun WW hWW => ?_)
  have hL11 : ∀ (n : Nat) (c_raised : Int32) (n1 : Int32) (n2 : Int32) (n3 : Int32) (e1 : Int32) (e2 : Int32), loop (fun z => f_X8_givenShare_L11 c_raised c_w z.1 z.2.1 z.2.2) n (n1, n2, n3) = some (e1, e2) → (∀ (H : Heap) (locs : List Loc) (ls : Array Slot), va_P D vwCl [oX8 a0 c_raised a_w a_kept a_copy c_undos c_eldest a_near a_isDone a_lane a_position a_least a_boxesOf a_staying a_planned a_scale, rI cI a_w 2450 c_w] H → va_D A [oX8 a0 c_raised a_w a_kept a_copy c_undos c_eldest a_near a_isDone a_lane a_position a_least a_boxesOf a_staying a_planned a_scale, rI cI a_w 2450 c_w] → va_S A s.heap H locs → lv_has ls 4 [(1, .int e1), (2, .int e2)] → WW H locs 0 0 (F0 m 49 ls [])) → ∀ (H : Heap) (locs : List Loc) (ls : Array Slot), va_P D vwCl [oX8 a0 c_raised a_w a_kept a_copy c_undos c_eldest a_near a_isDone a_lane a_position a_least a_boxesOf a_staying a_planned a_scale, rI cI a_w 2450 c_w] H → va_D A [oX8 a0 c_raised a_w a_kept a_copy c_undos c_eldest a_near a_isDone a_lane a_position a_least a_boxesOf a_staying a_planned a_scale, rI cI a_w 2450 c_w] → va_S A s.heap H locs → lv_has ls 4 [(0, .ref a0), (1, .int n1), (2, .int n2), (3, .int n3)] → WW H locs 0 0 (F0 m 11 ls []) := by
    intro n
    induction n with
    | zero =>
      intro c_raised n1 n2 n3 e1 e2 hlp
      exact absurd hlp (by simp [loop])
    | succ n ih =>
      intro c_raised n1 n2 n3 e1 e2 hlp K H locs ls hP hD hS hl
      obtain ⟨x9, hf, hlp⟩ := loop_s hlp
      have hf : f_X8_givenShare_L11 c_raised c_w n1 n2 n3 = some x9 := hf
      unfold f_X8_givenShare_L11 at hf
      refine (hWW _ _ _ _ _).mpr ?_
      refine lv_iload_n hx hb dX8_givenShare_11 rfl (lv_at hl 3 rfl) ?_
      refine lv_aload_n hx hb dX8_givenShare_12 rfl (lv_at hl 0 rfl) ?_
      refine va_get (D := D) (ci := 7) (v := .ref a_w) (C := RX8) (T := TX8) (N := 15) hx hb hts (fun w h => mb (iX8 w h)) hown hK hP 0 rfl rfl 1 (by decide) (hts _ (mb tb_1097)) (fun _ h9 => h9) rfl dX8_givenShare_13 ?_
      refine lv_bipush (v := 7) hx hb dX8_givenShare_16 (by decide) ?_
      obtain ⟨h1, hf⟩ := ob_d hf
      refine va_iald hx hb hK hP 1 0 rfl rfl h1 dX8_givenShare_18 ?_
      refine lv_icmp_ge (tgt := 49) hx hb dX8_givenShare_19 (by decide) (fun h2 => ?_) (fun h2 => ?_)
      · have hf := ipos h2 hf
        obtain rfl := Option.some.inj hf
        cases lpx_r hlp
        exact (hWW _ _ _ _ _).mp (K _ _ ls hP hD hS (lv_sub hl [1, 2] rfl))
      · have hf := ineg h2 hf
        refine lv_iload_n hx hb dX8_givenShare_22 rfl (lv_at hl 1 rfl) ?_
        refine lv_aload_n hx hb dX8_givenShare_23 rfl (lv_at hl 0 rfl) ?_
        refine lv_iload_n hx hb dX8_givenShare_24 rfl (lv_at hl 3 rfl) ?_
        obtain ⟨r3, hc4, hf⟩ := ob1 hf
        refine ro_calli (r := r3) (va_runV (As := [.int n3]) (rest := [.int n1]) ⟨hx, hb, hml, hown, hts⟩ (k_X8_hasAll l hl0 D cI cJ cZ cS B0 H a0 a_w a_kept a_copy a_near a_isDone a_lane a_position a_least a_boxesOf a_staying a_planned a_scale c_raised c_undos c_eldest c_w n3 r3 hc4) (cwV 1 hts (gV tb_1320 tb_1322 ts_51 tb_9 tb_1323) rfl rfl rfl (by decide +kernel) ⟨Nat.le_of_ble_eq_true rfl, Nat.le_of_ble_eq_true rfl⟩) ⟨rp_blind, va_recv hK hP (ci := 7) (q0 := 0) rfl rfl, rp_pre (hP.sub [0, 1] rfl) hK (hBn _ _ hS) (hEn _ _ hS)⟩ rfl rfl hl.1 rfl (lv_room (Nat.le_of_ble_eq_true rfl)) dX8_givenShare_25 ⟨Nat.le_of_ble_eq_true rfl, Nat.le_of_ble_eq_true rfl⟩) ?_
        refine lv_iadd hx hb dX8_givenShare_28 ?_
        refine lv_istore_n (lv' := [(1, .int (n1 + r3)), (0, .ref a0), (2, .int n2), (3, .int n3)]) hx hb dX8_givenShare_29 rfl hl (by decide) rfl (fun ls hl => ?_)
        refine lv_iload_n hx hb dX8_givenShare_30 rfl (lv_at hl 2 rfl) ?_
        refine lv_aload_n hx hb dX8_givenShare_31 rfl (lv_at hl 1 rfl) ?_
        refine va_get (D := D) (ci := 7) (v := .ref a_w) (C := RX8) (T := TX8) (N := 15) hx hb hts (fun w h => mb (iX8 w h)) hown hK hP 0 rfl rfl 1 (by decide) (hts _ (mb tb_1097)) (fun _ h9 => h9) rfl dX8_givenShare_32 ?_
        refine lv_sipush (v := 383) hx hb dX8_givenShare_35 (by decide) ?_
        refine lv_iload_n hx hb dX8_givenShare_38 rfl (lv_at hl 3 rfl) ?_
        refine lv_iadd hx hb dX8_givenShare_39 ?_
        obtain ⟨h5, hf⟩ := ob_d hf
        refine va_iald hx hb hK hP 1 0 rfl rfl h5 dX8_givenShare_40 ?_
        refine lv_iadd hx hb dX8_givenShare_41 ?_
        refine lv_istore_n (lv' := [(2, .int (n2 + (c_w (383 + n3).toNatClampNeg))), (1, .int (n1 + r3)), (0, .ref a0), (3, .int n3)]) hx hb dX8_givenShare_42 rfl hl (by decide) rfl (fun ls hl => ?_)
        refine lv_iinc (v := (n3 + 1)) (lv' := [(3, .int (n3 + 1)), (2, .int (n2 + (c_w (383 + n3).toNatClampNeg))), (1, .int (n1 + r3)), (0, .ref a0)]) hx hb dX8_givenShare_43 hl (k := 3) rfl rfl (by decide) rfl (fun ls hl => ?_)
        refine lv_goto (tgt := 11) hx hb dX8_givenShare_46 (by decide) ?_
        obtain rfl := Option.some.inj hf
        exact (hWW _ _ _ _ _).mp (ih _ _ _ _ _ _ hlp K _ _ ls hP hD hS (lv_sub hl [3, 2, 1, 0] rfl))
  refine (hWW _ _ _ _ _).mpr ?_
  refine lv_aload_n hx hb dX8_givenShare_0 rfl (lv_at hl 0 rfl) ?_
  refine lv_iconst (v := 0) hx hb dX8_givenShare_1 (by decide) ?_
  refine va_put (D := D) (ci := 7) (v := .int 0) (ty := .int) (C := RX8) (T := TX8) (N := 15) hx hb hts (fun w h => mb (iX8 w h)) tyX8 tyX8_ok nmX8 hown hK hP hD hS 0 rfl rfl 0 (by decide) (hts _ (mb tb_1096)) (fun _ h9 => h9) rfl (by decide +kernel) rfl rfl (Nat.le_of_ble_eq_true rfl) dX8_givenShare_2 (fun H locs hP hD hS => ?_)
  have hP : va_P D vwCl [oX8 a0 0 a_w a_kept a_copy c_undos c_eldest a_near a_isDone a_lane a_position a_least a_boxesOf a_staying a_planned a_scale, rI cI a_w 2450 c_w] H := hP
  have hD : va_D A [oX8 a0 0 a_w a_kept a_copy c_undos c_eldest a_near a_isDone a_lane a_position a_least a_boxesOf a_staying a_planned a_scale, rI cI a_w 2450 c_w] := hD
  refine lv_iconst (v := 0) hx hb dX8_givenShare_5 (by decide) ?_
  refine lv_istore_n (lv' := [(1, .int 0), (0, .ref a0)]) hx hb dX8_givenShare_6 rfl hl (by decide) rfl (fun ls hl => ?_)
  refine lv_iconst (v := 0) hx hb dX8_givenShare_7 (by decide) ?_
  refine lv_istore_n (lv' := [(2, .int 0), (1, .int 0), (0, .ref a0)]) hx hb dX8_givenShare_8 rfl hl (by decide) rfl (fun ls hl => ?_)
  refine lv_iconst (v := 0) hx hb dX8_givenShare_9 (by decide) ?_
  refine lv_istore_n (lv' := [(3, .int 0), (2, .int 0), (1, .int 0), (0, .ref a0)]) hx hb dX8_givenShare_10 rfl hl (by decide) rfl (fun ls hl => ?_)
  obtain ⟨m7, m8, hc6, hf⟩ := ob2 hf
  refine (hWW _ _ _ _ _).mp (hL11 fu _ _ _ _ _ _ hc6 (fun H locs ls hP hD hS hl => ?_) _ _ ls hP hD hS (lv_sub hl [3, 2, 1, 0] rfl))
  · refine (hWW _ _ _ _ _).mpr ?_
    refine lv_iload_n hx hb dX8_givenShare_49 rfl (lv_at hl 0 rfl) ?_
    refine lv_iload_n hx hb dX8_givenShare_50 rfl (lv_at hl 1 rfl) ?_
    refine lv_iadd hx hb dX8_givenShare_51 ?_
    refine lv_istore_n (lv' := [(3, .int (m7 + m8)), (1, .int m7), (2, .int m8)]) hx hb dX8_givenShare_52 rfl hl (by decide) rfl (fun ls hl => ?_)
    refine lv_iload_n hx hb dX8_givenShare_53 rfl (lv_at hl 0 rfl) ?_
    refine lv_if_ne (tgt := 61) hx hb dX8_givenShare_54 (by decide) (fun h9 => ?_) (fun h9 => ?_)
    · have hf := ineg h9 hf
      refine lv_iload_n hx hb dX8_givenShare_61 rfl (lv_at hl 1 rfl) ?_
      refine lv_i2f hx hb dX8_givenShare_62 ?_
      refine lv_iload_n hx hb dX8_givenShare_63 rfl (lv_at hl 0 rfl) ?_
      refine lv_i2f hx hb dX8_givenShare_64 ?_
      refine W.base ?_
      refine lv_fdiv_any hd0 lw_bits hx hb dX8_givenShare_65 (fun r9v d1 hal hd1 => ?_)
      cases hf
      refine W.endD hd1 ?_
      exact W.fret hx hb hr (fun t ht hW => ⟨⟨_, (), rfl, hal, (by show va_P D vwCl _ t.heap; rw [ht]; exact hP)⟩, hS.F ht⟩) hS.2.2 dX8_givenShare_66 (hlocks := hlocks)
    · have hf := ipos h9 hf
      refine lv_fconst0 hx hb dX8_givenShare_57 ?_
      refine lv_goto (tgt := 66) hx hb dX8_givenShare_58 (by decide) ?_
      cases hf
      refine W.base ?_
      refine W.endD hd0 ?_
      exact W.fret hx hb hr (fun t ht hW => ⟨⟨_, (), rfl, (by decide), (by show va_P D vwCl _ t.heap; rw [ht]; exact hP)⟩, hS.F ht⟩) hS.2.2 dX8_givenShare_66 (hlocks := hlocks)
