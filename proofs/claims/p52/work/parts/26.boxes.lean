section GX
variable {p : Program} {l : Launch} {e : Env} {R : Room} {s : State} {m : MethodId} {args : Array Value} {below : List Frame} {meth : Method} {c : Code} {H : Heap} {locs : List Loc} {cells slots : Nat} {Q : State → Prop}
theorem gen_goX {g : JFrame} (k : ∀ (WW : Heap → List Loc → Nat → Nat → JFrame → Prop) (WX : Heap → List Loc → Nat → Nat → JFrame → Addr → Prop), (∀ H locs c1 n1 g, WW H locs c1 n1 g ↔ W p l e R s m args below meth c H locs c1 n1 Q g) → (∀ H locs c1 n1 g q, WX H locs c1 n1 g q ↔ vx_W p l e R s m args below meth c H locs c1 n1 Q g q) → WW H locs cells slots g) : W p l e R s m args below meth c H locs cells slots Q g := k (fun H locs c1 n1 g => W p l e R s m args below meth c H locs c1 n1 Q g) (fun H locs c1 n1 g q => vx_W p l e R s m args below meth c H locs c1 n1 Q g q) (fun _ _ _ _ _ => Iff.rfl) (fun _ _ _ _ _ _ => Iff.rfl)
end GX
def f_X7_boxes_L9 (n1 : Int32) (c_now_itemCount : Int32) (c_now_items : Nat → Int32) (c_packed : Nat → Int32) (n2 : Int32) : Option ((Int32) ⊕ ((Unit) ⊕ String)) :=
  (if c_now_itemCount ≤ n2 then some (.inr (.inl ()))
  else gd n2 8 (bnd1 (f_X7_needRange (c_now_items n2.toNatClampNeg) 1 n1) (fun r6 => mx r6 (fun E8 => some (.inr (.inr E8))) (fun _ =>
  (some (.inl (n2 + 1)))))))
def f_X7_boxes (v1 : Int32) (c_now_itemCount : Int32) (c_now_items : Nat → Int32) (c_packed : Nat → Int32) : Option ((Except String Int32) × (Nat → Int32)) :=
  bnd1 (f_X7_needRange v1 1 40) (fun r1 => mx r1 (fun E3 => some (.error E3, c_packed)) (fun _ =>
  ((bnd1 (loop (fun z => f_X7_boxes_L9 v1 c_now_itemCount c_now_items c_packed z) fu 0) fun e10 =>
  (sel (fun _ => bnd2 (f_X7_fewestBoxes v1 c_now_itemCount c_now_items c_packed) (fun r11 o13 =>
  (some (.ok r11, o13)))) (fun E14 => some (.error E14, c_packed))) e10))))
set_option maxHeartbeats 4000000 in
set_option maxRecDepth 100000 in
theorem k_X7_boxes (l : Launch) (hl0 : l.stackTraces = false) (D : va_G) (cI cJ cZ cS : ClassId) (B0 : Nat) (sz : Nat) (a0 a_now a_past a_plan a_picker a_rest a_packed a_now_items a_now_books a_now_terms a_now_shelves a_now_lots a_now_orders : Nat) (c_acts : Int32) (c_nextSlot : Int32) (c_now_today : Int32) (c_now_products : Int32) (c_now_itemCount : Int32) (c_now_items : Nat → Int32) (c_packed : Nat → Int32) (v1 : Int32) (r9 : Except String Int32) (oc_packed : Nat → Int32)  (hf : f_X7_boxes v1 c_now_itemCount c_now_items c_packed = some (r9, oc_packed)) : vx_Met l yX7_boxes (wz yX7_boxes cX7_boxes 3 (some .int)) ({ frames := 7, cells := 1, slots := 6, locals := 112 }) (va_Pc [.ref a0, .int v1] (wp D cI cJ cZ cS B0 [oX7 a0 a_now a_past c_acts c_nextSlot a_plan a_picker a_rest a_packed, oX6 a_now c_now_today c_now_products c_now_itemCount a_now_items a_now_books a_now_terms a_now_shelves a_now_lots a_now_orders, rI cI a_now_items 8 c_now_items, rI cI a_packed 256 c_packed] sz)) (va_Qi (fun (r2 : Int32) (_ : Unit) => r9 = .ok r2) (fun _ t => va_P D vwCl [oX7 a0 a_now a_past c_acts c_nextSlot a_plan a_picker a_rest a_packed, oX6 a_now c_now_today c_now_products c_now_itemCount a_now_items a_now_books a_now_terms a_now_shelves a_now_lots a_now_orders, rI cI a_now_items 8 c_now_items, rI cI a_packed 256 oc_packed] t.heap) (va_A [oX7 a0 a_now a_past c_acts c_nextSlot a_plan a_picker a_rest a_packed, oX6 a_now c_now_today c_now_products c_now_itemCount a_now_items a_now_books a_now_terms a_now_shelves a_now_lots a_now_orders, rI cI a_now_items 8 c_now_items, rI cI a_packed 256 c_packed] sz)) (vx_X (fun (_ : Unit) => True) (fun E _ t => r9 = .error E ∧ va_P D vwCl [oX7 a0 a_now a_past c_acts c_nextSlot a_plan a_picker a_rest a_packed, oX6 a_now c_now_today c_now_products c_now_itemCount a_now_items a_now_books a_now_terms a_now_shelves a_now_lots a_now_orders, rI cI a_now_items 8 c_now_items, rI cI a_packed 256 oc_packed] t.heap) (va_A [oX7 a0 a_now a_past c_acts c_nextSlot a_plan a_picker a_rest a_packed, oX6 a_now c_now_today c_now_products c_now_itemCount a_now_items a_now_books a_now_terms a_now_shelves a_now_lots a_now_orders, rI cI a_now_items 8 c_now_items, rI cI a_packed 256 c_packed] sz)) 1 6 (va_A [oX7 a0 a_now a_past c_acts c_nextSlot a_plan a_picker a_rest a_packed, oX6 a_now c_now_today c_now_products c_now_itemCount a_now_items a_now_books a_now_terms a_now_shelves a_now_lots a_now_orders, rI cI a_now_items 8 c_now_items, rI cI a_packed 256 c_packed] sz) := by
  refine vx_ofW (cc := cX7_boxes) (maxL := 3) (ret := (some .int)) (by decide +kernel) rfl ?_
  intro p e s m args below meth c s₁ B hml hno hv
  obtain ⟨rfl, hsz, hP, hK, hD0, hB0, hE⟩ := hv
  subst hsz
  have hx := B.exec
  have hb := B.bytes
  have hr := B.returns
  have hts := atoms_spec (ws := (wz yX7_boxes cX7_boxes 3 (some .int))) B.pre
  have hown : s.vm.findClass RX7 = some m.cls := findClass_of_methodNamed B.named
  have hlocks := B.notSynchronized
  have hD := hD0.self (sz := s.heap.size)
  have hAB : ∀ q : Nat, va_A [oX7 a0 a_now a_past c_acts c_nextSlot a_plan a_picker a_rest a_packed, oX6 a_now c_now_today c_now_products c_now_itemCount a_now_items a_now_books a_now_terms a_now_shelves a_now_lots a_now_orders, rI cI a_now_items 8 c_now_items, rI cI a_packed 256 c_packed] s.heap.size q → B0 ≤ q := va_A_B hD0 hB0
  generalize hAe : va_A [oX7 a0 a_now a_past c_acts c_nextSlot a_plan a_picker a_rest a_packed, oX6 a_now c_now_today c_now_products c_now_itemCount a_now_items a_now_books a_now_terms a_now_shelves a_now_lots a_now_orders, rI cI a_now_items 8 c_now_items, rI cI a_packed 256 c_packed] s.heap.size = A at hD hAB ⊢
  have hA : ∀ q : Nat, s.heap.size ≤ q → A q := fun q h => by rw [← hAe]; exact Or.inr h
  have hFa := hA
  have hS : va_S A s.heap s.heap [] := va_S.rf
  have hBn := fun (H : Heap) (locs : List Loc) (h : va_S A s.heap H locs) => Nat.le_trans hB0 h.1
  have hEn := fun (H : Heap) (locs : List Loc) (h : va_S A s.heap H locs) => gE_now hE h hAB
  have hl := lv_entry ([.ref a0, .int v1]) (n := 3) (Nat.le_of_ble_eq_true rfl)
  rw [lg_entry_eq]
  generalize (lg_sl ([.ref a0, .int v1]) ++ List.replicate (3 - (lg_sl ([.ref a0, .int v1])).length) Slot.unset).toArray = ls at hl ⊢
  have hl : lv_has ls 3 [(0, .ref a0), (1, .int v1)] := hl
  obtain ⟨H, hHe⟩ : ∃ H : Heap, H = s.heap := ⟨_, rfl⟩
  have hP : va_P D vwCl [oX7 a0 a_now a_past c_acts c_nextSlot a_plan a_picker a_rest a_packed, oX6 a_now c_now_today c_now_products c_now_itemCount a_now_items a_now_books a_now_terms a_now_shelves a_now_lots a_now_orders, rI cI a_now_items 8 c_now_items, rI cI a_packed 256 c_packed] H := by rw [hHe]; exact hP
  have hS : va_S A s.heap H [] := by rw [hHe]; exact hS
  refine W_heq hHe ?_
  unfold f_X7_boxes at hf
  refine gen_goX (fun WW WX hWW hWX => ?_)
  have hL9 : ∀ (n : Nat) (n1 : Int32) (c_packed : Nat → Int32) (n2 : Int32) (e9 : ((Unit) ⊕ String)), loop (fun z => f_X7_boxes_L9 n1 c_now_itemCount c_now_items c_packed z) n n2 = some e9 → (e9 = (.inl ()) → ∀ (H : Heap) (locs : List Loc) (ls : Array Slot), va_P D vwCl [oX7 a0 a_now a_past c_acts c_nextSlot a_plan a_picker a_rest a_packed, oX6 a_now c_now_today c_now_products c_now_itemCount a_now_items a_now_books a_now_terms a_now_shelves a_now_lots a_now_orders, rI cI a_now_items 8 c_now_items, rI cI a_packed 256 c_packed] H → va_D A [oX7 a0 a_now a_past c_acts c_nextSlot a_plan a_picker a_rest a_packed, oX6 a_now c_now_today c_now_products c_now_itemCount a_now_items a_now_books a_now_terms a_now_shelves a_now_lots a_now_orders, rI cI a_now_items 8 c_now_items, rI cI a_packed 256 c_packed] → va_S A s.heap H locs → lv_has ls 3 [(0, .ref a0), (1, .int n1)] → WW H locs 0 0 (F0 m 40 ls [])) → (∀ (eX : String), e9 = (.inr eX) → ∀ (H : Heap) (locs : List Loc) (ls : Array Slot) (ce : Cell) (q9 pc9 : Nat) (rest9 : List Value), va_P D vwCl [oX7 a0 a_now a_past c_acts c_nextSlot a_plan a_picker a_rest a_packed, oX6 a_now c_now_today c_now_products c_now_itemCount a_now_items a_now_books a_now_terms a_now_shelves a_now_lots a_now_orders, rI cI a_now_items 8 c_now_items, rI cI a_packed 256 c_packed] H → va_D A [oX7 a0 a_now a_past c_acts c_nextSlot a_plan a_picker a_rest a_packed, oX6 a_now c_now_today c_now_products c_now_itemCount a_now_items a_now_books a_now_terms a_now_shelves a_now_lots a_now_orders, rI cI a_now_items 8 c_now_items, rI cI a_packed 256 c_packed] → va_S A s.heap H locs → H[q9]? = some ce → ce.vm = .none → s.vm.findClass eX = some ce.cls → WX H locs 1 6 (F0 m pc9 ls rest9) q9) → ∀ (H : Heap) (locs : List Loc) (ls : Array Slot), va_P D vwCl [oX7 a0 a_now a_past c_acts c_nextSlot a_plan a_picker a_rest a_packed, oX6 a_now c_now_today c_now_products c_now_itemCount a_now_items a_now_books a_now_terms a_now_shelves a_now_lots a_now_orders, rI cI a_now_items 8 c_now_items, rI cI a_packed 256 c_packed] H → va_D A [oX7 a0 a_now a_past c_acts c_nextSlot a_plan a_picker a_rest a_packed, oX6 a_now c_now_today c_now_products c_now_itemCount a_now_items a_now_books a_now_terms a_now_shelves a_now_lots a_now_orders, rI cI a_now_items 8 c_now_items, rI cI a_packed 256 c_packed] → va_S A s.heap H locs → lv_has ls 3 [(0, .ref a0), (1, .int n1), (2, .int n2)] → WW H locs 0 0 (F0 m 9 ls []) := by
    intro n
    induction n with
    | zero =>
      intro n1 c_packed n2 e9 hlp
      exact absurd hlp (by simp [loop])
    | succ n ih =>
      intro n1 c_packed n2 e9 hlp K0 K1 H locs ls hP hD hS hl
      obtain ⟨x9, hf, hlp⟩ := loop_s hlp
      have hf : f_X7_boxes_L9 n1 c_now_itemCount c_now_items c_packed n2 = some x9 := hf
      unfold f_X7_boxes_L9 at hf
      refine (hWW _ _ _ _ _).mpr ?_
      refine lv_iload_n hx hb dX7_boxes_9 rfl (lv_at hl 2 rfl) ?_
      refine lv_aload_n hx hb dX7_boxes_10 rfl (lv_at hl 0 rfl) ?_
      refine va_get (D := D) (ci := 6) (v := .ref a_now) (C := RX7) (T := TX7) (N := 8) hx hb hts (fun w h => mb (iX7 w h)) hown hK hP 0 rfl rfl 0 (by decide) (hts _ (mb tb_275)) (fun _ h9 => h9) rfl dX7_boxes_11 ?_
      refine va_get (D := D) (ci := 5) (v := .int c_now_itemCount) (C := RX6) (T := TX6) (N := 9) hx hb hts (fun w h => mb (iX6 w h)) hown hK hP 1 rfl rfl 2 (by decide) (hts _ (mb tb_166)) (fun _ h9 => h9) rfl dX7_boxes_14 ?_
      refine lv_icmp_ge (tgt := 40) hx hb dX7_boxes_17 (by decide) (fun h4 => ?_) (fun h4 => ?_)
      · have hf := ipos h4 hf
        obtain rfl := Option.some.inj hf
        cases lpx_r hlp
        exact (hWW _ _ _ _ _).mp (K0 rfl _ _ ls hP hD hS (lv_sub hl [0, 1] rfl))
      · have hf := ineg h4 hf
        refine lv_aload_n hx hb dX7_boxes_20 rfl (lv_at hl 0 rfl) ?_
        refine va_get (D := D) (ci := 6) (v := .ref a_now) (C := RX7) (T := TX7) (N := 8) hx hb hts (fun w h => mb (iX7 w h)) hown hK hP 0 rfl rfl 0 (by decide) (hts _ (mb tb_275)) (fun _ h9 => h9) rfl dX7_boxes_21 ?_
        refine va_get (D := D) (ci := 5) (v := .ref a_now_items) (C := RX6) (T := TX6) (N := 9) hx hb hts (fun w h => mb (iX6 w h)) hown hK hP 1 rfl rfl 3 (by decide) (hts _ (mb tb_168)) (fun _ h9 => h9) rfl dX7_boxes_24 ?_
        refine lv_iload_n hx hb dX7_boxes_27 rfl (lv_at hl 2 rfl) ?_
        obtain ⟨h5, hf⟩ := ob_d hf
        refine va_iald hx hb hK hP 2 0 rfl rfl h5 dX7_boxes_28 ?_
        refine lv_iconst (v := 1) hx hb dX7_boxes_29 (by decide) ?_
        refine lv_iload_n hx hb dX7_boxes_30 rfl (lv_at hl 1 rfl) ?_
        obtain ⟨r6, hc7, hf⟩ := ob1 hf
        refine rx_callv (r9 := r6) (vx_runS (As := [.int (c_now_items n2.toNatClampNeg), .int 1, .int n1]) (rest := []) ⟨hx, hb, hml, hown, hts⟩ (k_X7_needRange l hl0 D cI cJ cZ cS B0 H (c_now_items n2.toNatClampNeg) 1 n1 r6 hc7) (va_cwS 3 hts (gS tb_353 tb_354 tb_1 tb_355) rfl rfl rfl (by decide +kernel) ⟨Nat.le_of_ble_eq_true rfl, Nat.le_of_ble_eq_true rfl⟩) ⟨rp_blind, rp_pre (hP.sub [] rfl) hK (hBn _ _ hS) (hEn _ _ hS)⟩ rfl rfl hl.1 rfl (lv_room (Nat.le_of_ble_eq_true rfl)) dX7_boxes_31 ⟨Nat.le_of_ble_eq_true rfl, Nat.le_of_ble_eq_true rfl⟩) hS hA (fun E8 ce q9 H1 locs1 hE9 hz9 hk9 hS hq9 hv9 hcl9 => ?_) (fun hr9 => ?_)
        · subst hE9
          have hf := mx_e hf
          obtain rfl := Option.some.inj hf
          cases lpx_r hlp
          refine vx_widen (k := 1) (n := 6) (Nat.le_of_ble_eq_true rfl) (Nat.le_of_ble_eq_true rfl) ?_
          exact (hWX _ _ _ _ _ _).mp (K1 _ rfl _ _ ls _ _ _ _ (va_Pk hP hk9) hD hS hq9 hv9 hcl9)
        · subst hr9
          have hf := mx_o hf
          refine lv_iinc (v := (n2 + 1)) (lv' := [(2, .int (n2 + 1)), (0, .ref a0), (1, .int n1)]) hx hb dX7_boxes_34 hl (k := 2) rfl rfl (by decide) rfl (fun ls hl => ?_)
          refine lv_goto (tgt := 9) hx hb dX7_boxes_37 (by decide) ?_
          obtain rfl := Option.some.inj hf
          exact (hWW _ _ _ _ _).mp (ih _ _ _ _ hlp K0 K1 _ _ ls hP hD hS (lv_sub hl [1, 2, 0] rfl))
  refine (hWW _ _ _ _ _).mpr ?_
  refine lv_iload_n hx hb dX7_boxes_0 rfl (lv_at hl 1 rfl) ?_
  refine lv_iconst (v := 1) hx hb dX7_boxes_1 (by decide) ?_
  refine lv_bipush (v := 40) hx hb dX7_boxes_2 (by decide) ?_
  obtain ⟨r1, hc2, hf⟩ := ob1 hf
  refine rx_callv (r9 := r1) (vx_runS (As := [.int v1, .int 1, .int 40]) (rest := []) ⟨hx, hb, hml, hown, hts⟩ (k_X7_needRange l hl0 D cI cJ cZ cS B0 H v1 1 40 r1 hc2) (va_cwS 3 hts (gS tb_353 tb_354 tb_1 tb_355) rfl rfl rfl (by decide +kernel) ⟨Nat.le_of_ble_eq_true rfl, Nat.le_of_ble_eq_true rfl⟩) ⟨rp_blind, rp_pre (hP.sub [] rfl) hK (hBn _ _ hS) (hEn _ _ hS)⟩ rfl rfl hl.1 rfl (lv_room (Nat.le_of_ble_eq_true rfl)) dX7_boxes_4 ⟨Nat.le_of_ble_eq_true rfl, Nat.le_of_ble_eq_true rfl⟩) hS hA (fun E3 ce q9 H1 locs1 hE9 hz9 hk9 hS hq9 hv9 hcl9 => ?_) (fun hr9 => ?_)
  · subst hE9
    have hf := mx_e hf
    cases hf
    exact vx_out (fun x hx => (hno x hx).elim) hlocks hq9 hv9 hcl9 (fun t ht hal => ⟨(), trivial, ⟨rfl, (by show va_P D vwCl _ t.heap; rw [ht]; exact va_Pk hP hk9)⟩, hS.F ht⟩) hS.2.2 (Nat.le_of_ble_eq_true rfl) (Nat.le_of_ble_eq_true rfl)
  · subst hr9
    have hf := mx_o hf
    refine lv_iconst (v := 0) hx hb dX7_boxes_7 (by decide) ?_
    refine lv_istore_n (lv' := [(2, .int 0), (0, .ref a0), (1, .int v1)]) hx hb dX7_boxes_8 rfl hl (by decide) rfl (fun ls hl => ?_)
    obtain ⟨e10, hc9, hf⟩ := ob1 hf
    refine (hWW _ _ _ _ _).mp (hL9 fu _ _ _ _ hc9 ?_ ?_ _ _ ls hP hD hS (lv_sub hl [1, 2, 0] rfl))
    · intro  hz H locs ls hP hD hS hl
      subst hz
      have hf := sel_0_2 hf
      refine (hWW _ _ _ _ _).mpr ?_
      refine lv_aload_n hx hb dX7_boxes_40 rfl (lv_at hl 0 rfl) ?_
      refine lv_iload_n hx hb dX7_boxes_41 rfl (lv_at hl 1 rfl) ?_
      obtain ⟨r11, o13, hc12, hf⟩ := ob2 hf
      refine rw_calli (r := r11) (va_runV (As := [.int v1]) (rest := []) ⟨hx, hb, hml, hown, hts⟩ (k_X7_fewestBoxes l hl0 D cI cJ cZ cS B0 H.size a0 a_now a_past a_plan a_picker a_rest a_packed a_now_items a_now_books a_now_terms a_now_shelves a_now_lots a_now_orders c_acts c_nextSlot c_now_today c_now_products c_now_itemCount c_now_items c_packed v1 r11 o13 hc12) (cwV 1 hts (gV tb_896 tb_898 ts_34 tb_1 tb_899) rfl rfl rfl (by decide +kernel) ⟨Nat.le_of_ble_eq_true rfl, Nat.le_of_ble_eq_true rfl⟩) ⟨wp_blind, va_recv hK hP (ci := 6) (q0 := 0) rfl rfl, wp_pre (hP.sub [0, 1, 2, 3] rfl) hK (va_D.sub (hD.weaken (fun _ _ _ h9 => hAB _ h9)) [0, 1, 2, 3] rfl rfl) (hBn _ _ hS) (hEn _ _ hS)⟩ rfl rfl hl.1 rfl (lv_room (Nat.le_of_ble_eq_true rfl)) dX7_boxes_42 ⟨Nat.le_of_ble_eq_true rfl, Nat.le_of_ble_eq_true rfl⟩) hP hD hS hA [oX7 a0 a_now a_past c_acts c_nextSlot a_plan a_picker a_rest a_packed, oX6 a_now c_now_today c_now_products c_now_itemCount a_now_items a_now_books a_now_terms a_now_shelves a_now_lots a_now_orders, rI cI a_now_items 8 c_now_items, rI cI a_packed 256 o13] 4 [0, 1, 2, 3] [] rfl rfl rfl rfl (by decide +kernel) rfl (fun H locs hP hD hS => ?_)
      cases hf
      refine vx_ret ?_
      refine W.widen (k := 1) (n := 6) (Nat.le_of_ble_eq_true rfl) (Nat.le_of_ble_eq_true rfl) ?_
      exact W.iret hx hb hr (fun t ht hW => ⟨⟨_, (), rfl, rfl, (by show va_P D vwCl _ t.heap; rw [ht]; exact hP)⟩, hS.F ht⟩) hS.2.2 dX7_boxes_45
    · intro E14 hz H locs ls ce q9 pc9 rest9 hP hD hS hq9 hv9 hcl9
      subst hz
      have hf := sel_1_2 hf
      refine (hWX _ _ _ _ _ _).mpr ?_
      cases hf
      exact vx_out (fun x hx => (hno x hx).elim) hlocks hq9 hv9 hcl9 (fun t ht hal => ⟨(), trivial, ⟨rfl, (by rw [ht]; exact hP)⟩, hS.F ht⟩) hS.2.2 (Nat.le_of_ble_eq_true rfl) (Nat.le_of_ble_eq_true rfl)
