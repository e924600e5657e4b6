def f_X7_today (c_now_today : Int32) : Option (Int32) :=
  some c_now_today
set_option maxHeartbeats 4000000 in
set_option maxRecDepth 100000 in
theorem k_X7_today (l : Launch) (hl0 : l.stackTraces = false) (D : va_G) (cI cJ cZ cS : ClassId) (B0 : Nat) (H0 : Heap) (a0 a_now a_past a_plan a_picker a_rest a_packed a_now_items a_now_books a_now_terms a_now_shelves a_now_lots a_now_orders : Nat) (c_acts : Int32) (c_nextSlot : Int32) (c_now_today : Int32) (c_now_products : Int32) (c_now_itemCount : Int32) (r9 : Int32)  (hf : f_X7_today c_now_today = some r9) : Met l yX7_today (wz yX7_today cX7_today 1 (some .int)) ({ frames := 0, cells := 0, slots := 0, locals := 0 }) (va_Pc [.ref a0] (rp D cI cJ cZ cS B0 [oX7 a0 a_now a_past c_acts c_nextSlot a_plan a_picker a_rest a_packed, oX6 a_now c_now_today c_now_products c_now_itemCount a_now_items a_now_books a_now_terms a_now_shelves a_now_lots a_now_orders] H0)) (va_Qi (fun (r2 : Int32) (_ : Unit) => r2 = r9) (fun _ t => t.heap = H0) (fun q => H0.size ≤ q)) 0 0 (fun q => H0.size ≤ q) := by
  refine Met.ofW (cc := cX7_today) (maxL := 1) (ret := (some .int)) (by decide) rfl ?_
  intro p e s m args below meth c s₁ B hml hv
  obtain ⟨rfl, hH, hP, hK, hB0, hE⟩ := hv
  subst hH
  have hx := B.exec
  have hb := B.bytes
  have hr := B.returns
  have hts := atoms_spec (ws := (wz yX7_today cX7_today 1 (some .int))) B.pre
  have hown : s.vm.findClass RX7 = some m.cls := findClass_of_methodNamed B.named
  have hlocks := B.notSynchronized
  have hAB : ∀ q : Nat, s.heap.size ≤ q → B0 ≤ q := fun q h => Nat.le_trans hB0 h
  have hA : ∀ q : Nat, s.heap.size ≤ q → s.heap.size ≤ q := fun _ h => h
  have hS : va_S (fun q => s.heap.size ≤ q) s.heap s.heap [] := va_S.rf
  have hBn := fun (H : Heap) (locs : List Loc) (h : va_S (fun q => s.heap.size ≤ q) s.heap H locs) => Nat.le_trans hB0 h.1
  have hEn := fun (H : Heap) (locs : List Loc) (h : va_S (fun q => s.heap.size ≤ q) s.heap H locs) => gE_now hE h hAB
  have hl := lv_entry ([.ref a0]) (n := 1) (Nat.le_of_ble_eq_true rfl)
  rw [lg_entry_eq]
  generalize (lg_sl ([.ref a0]) ++ List.replicate (1 - (lg_sl ([.ref a0])).length) Slot.unset).toArray = ls at hl ⊢
  have hl : lv_has ls 1 [(0, .ref a0)] := hl
  obtain ⟨H, hHe⟩ : ∃ H : Heap, H = s.heap := ⟨_, rfl⟩
  have hP : va_P D vwCl [oX7 a0 a_now a_past c_acts c_nextSlot a_plan a_picker a_rest a_packed, oX6 a_now c_now_today c_now_products c_now_itemCount a_now_items a_now_books a_now_terms a_now_shelves a_now_lots a_now_orders] H := by rw [hHe]; exact hP
  have hS : va_S (fun q => s.heap.size ≤ q) s.heap H [] := by rw [hHe]; exact hS
  refine W_heq hHe ?_
  unfold f_X7_today at hf
  refine lv_aload_n hx hb dX7_today_0 rfl (lv_at hl 0 rfl) ?_
  refine va_get (D := D) (ci := 6) (v := .ref a_now) (C := RX7) (T := TX7) (N := 8) hx hb hts (fun w h => mb (iX7 w h)) hown hK hP 0 rfl rfl 0 (by decide) (hts _ (mb tb_270)) (fun _ h9 => h9) rfl dX7_today_1 ?_
  refine va_get (D := D) (ci := 5) (v := .int c_now_today) (C := RX6) (T := TX6) (N := 9) hx hb hts (fun w h => mb (iX6 w h)) hown hK hP 1 rfl rfl 0 (by decide) (hts _ (mb tb_157)) (fun _ h9 => h9) rfl dX7_today_4 ?_
  cases hf
  exact W.iret hx hb hr (fun t ht hW => ⟨⟨_, (), rfl, rfl, (ht.trans hHe)⟩, hS.F ht⟩) hS.2.2 dX7_today_7
def f_X7_needRange_J10 : Option ((Except String Unit)) :=
  some (.error "java/lang/IllegalArgumentException")
def f_X7_needRange (v0 : Int32) (v1 : Int32) (v2 : Int32) : Option ((Except String Unit)) :=
  (if v0 < v1 then f_X7_needRange_J10
  else (if v0 ≤ v2 then some (.ok ())
  else f_X7_needRange_J10))
set_option maxHeartbeats 4000000 in
set_option maxRecDepth 100000 in
theorem k_X7_needRange (l : Launch) (hl0 : l.stackTraces = false) (D : va_G) (cI cJ cZ cS : ClassId) (B0 : Nat) (H0 : Heap) (v0 : Int32) (v1 : Int32) (v2 : Int32) (r9 : Except String Unit)  (hf : f_X7_needRange v0 v1 v2 = some r9) : vx_Met l yX7_needRange (wz yX7_needRange cX7_needRange 3 none) ({ frames := 6, cells := 1, slots := 6, locals := 90 }) (va_Pc [.int v0, .int v1, .int v2] (rp D cI cJ cZ cS B0 [] H0)) (va_Qv (fun (_ : Unit) => r9 = .ok ()) (fun _ t => t.heap = H0) (fun q => H0.size ≤ q)) (vx_X (fun (_ : Unit) => True) (fun E _ _ => r9 = .error E) (fun q => H0.size ≤ q)) 1 6 (fun q => H0.size ≤ q) := by
  refine vx_ofW (cc := cX7_needRange) (maxL := 3) (ret := none) (by decide +kernel) rfl ?_
  intro p e s m args below meth c s₁ B hml hno hv
  obtain ⟨rfl, hH, hP, hK, hB0, hE⟩ := hv
  subst hH
  have hx := B.exec
  have hb := B.bytes
  have hr := B.returns
  have hts := atoms_spec (ws := (wz yX7_needRange cX7_needRange 3 none)) B.pre
  have hown : s.vm.findClass RX7 = some m.cls := findClass_of_methodNamed B.named
  have hlocks := B.notSynchronized
  have hAB : ∀ q : Nat, s.heap.size ≤ q → B0 ≤ q := fun q h => Nat.le_trans hB0 h
  have hA : ∀ q : Nat, s.heap.size ≤ q → s.heap.size ≤ q := fun _ h => h
  have hS : va_S (fun q => s.heap.size ≤ q) s.heap s.heap [] := va_S.rf
  have hBn := fun (H : Heap) (locs : List Loc) (h : va_S (fun q => s.heap.size ≤ q) s.heap H locs) => Nat.le_trans hB0 h.1
  have hEn := fun (H : Heap) (locs : List Loc) (h : va_S (fun q => s.heap.size ≤ q) s.heap H locs) => gE_now hE h hAB
  have hl := lv_entry ([.int v0, .int v1, .int v2]) (n := 3) (Nat.le_of_ble_eq_true rfl)
  rw [lg_entry_eq]
  generalize (lg_sl ([.int v0, .int v1, .int v2]) ++ List.replicate (3 - (lg_sl ([.int v0, .int v1, .int v2])).length) Slot.unset).toArray = ls at hl ⊢
  have hl : lv_has ls 3 [(0, .int v0), (1, .int v1), (2, .int v2)] := hl
  obtain ⟨H, hHe⟩ : ∃ H : Heap, H = s.heap := ⟨_, rfl⟩
  have hP : va_P D vwCl [] H := by rw [hHe]; exact hP
  have hS : va_S (fun q => s.heap.size ≤ q) s.heap H [] := by rw [hHe]; exact hS
  refine W_heq hHe ?_
  unfold f_X7_needRange at hf
  refine gen_go (fun WW hWW => ?_)
  have hJ10 : ∀ (_ : Unit), f_X7_needRange_J10 = some r9 → ∀ (ls : Array Slot), lv_has ls 3 [] → WW (F0 m 10 ls []) := by
    intro _ hf ls hl
    unfold f_X7_needRange_J10 at hf
    refine (hWW _).mpr ?_
    cases hf
    exact thrW_IA (is := 329) (text := "a number is out of range") hx hb hl0 hown hts hE hAB (by decide) hS hl.1 dX7_needRange_10 dX7_needRange_13 dX7_needRange_14 dX7_needRange_17 dX7_needRange_20 hml hno (Nat.le_of_ble_eq_true rfl) (Nat.le_of_ble_eq_true rfl) (Nat.le_of_ble_eq_true rfl) (Nat.le_of_ble_eq_true rfl) hlocks (fun t hal hz9 hk9 => ⟨(), trivial, rfl, va_S_F hS hz9 hk9⟩) hS.2.2 (Nat.le_of_ble_eq_true rfl) (Nat.le_of_ble_eq_true rfl)
  refine (hWW _).mpr ?_
  refine lv_iload_n hx hb dX7_needRange_0 rfl (lv_at hl 0 rfl) ?_
  refine lv_iload_n hx hb dX7_needRange_1 rfl (lv_at hl 1 rfl) ?_
  refine lv_icmp_lt (tgt := 10) hx hb dX7_needRange_2 (by decide) (fun h1 => ?_) (fun h1 => ?_)
  · have hf := ipos h1 hf
    exact (hWW _).mp (hJ10 () hf ls (lv_sub hl [] rfl))
  · have hf := ineg h1 hf
    refine lv_iload_n hx hb dX7_needRange_5 rfl (lv_at hl 0 rfl) ?_
    refine lv_iload_n hx hb dX7_needRange_6 rfl (lv_at hl 2 rfl) ?_
    refine lv_icmp_le (tgt := 21) hx hb dX7_needRange_7 (by decide) (fun h2 => ?_) (fun h2 => ?_)
    · have hf := ipos h2 hf
      cases hf
      refine vx_ret ?_
      refine W.widen (k := 1) (n := 6) (Nat.le_of_ble_eq_true rfl) (Nat.le_of_ble_eq_true rfl) ?_
      exact W.vret hx hb hr (fun t ht hW => ⟨⟨(), rfl, rfl, (ht.trans hHe)⟩, hS.F ht⟩) hS.2.2 dX7_needRange_21
    · have hf := ineg h2 hf
      exact (hWW _).mp (hJ10 () hf ls (lv_sub hl [] rfl))
def f_X7_dayOf (v1 : Int32) (v2 : Int32) (v3 : Int32) : Option ((Except String Int32)) :=
  bnd1 (f_X7_needRange v1 2024 2030) (fun r1 => mx r1 (fun E3 => some (.error E3)) (fun _ =>
  (bnd1 (f_X0_daysOfMonth v1 v2) (fun r4 =>
  (bnd1 (f_X7_needRange v3 1 r4) (fun r6 => mx r6 (fun E8 => some (.error E8)) (fun _ =>
  (bnd1 (f_X0_numberOf v1 v2 v3) (fun r9 =>
  (some (.ok r9)))))))))))
set_option maxHeartbeats 4000000 in
set_option maxRecDepth 100000 in
theorem k_X7_dayOf (l : Launch) (hl0 : l.stackTraces = false) (D : va_G) (cI cJ cZ cS : ClassId) (B0 : Nat) (H0 : Heap) (a0 a_now a_past a_plan a_picker a_rest a_packed : Nat) (c_acts : Int32) (c_nextSlot : Int32) (v1 : Int32) (v2 : Int32) (v3 : Int32) (r9 : Except String Int32)  (hf : f_X7_dayOf v1 v2 v3 = some r9) : vx_Met l yX7_dayOf (wz yX7_dayOf cX7_dayOf 4 (some .int)) ({ frames := 7, cells := 1, slots := 6, locals := 112 }) (va_Pc [.ref a0, .int v1, .int v2, .int v3] (rp D cI cJ cZ cS B0 [oX7 a0 a_now a_past c_acts c_nextSlot a_plan a_picker a_rest a_packed] H0)) (va_Qi (fun (r2 : Int32) (_ : Unit) => r9 = .ok r2) (fun _ t => t.heap = H0) (fun q => H0.size ≤ q)) (vx_X (fun (_ : Unit) => True) (fun E _ _ => r9 = .error E) (fun q => H0.size ≤ q)) 1 6 (fun q => H0.size ≤ q) := by
  refine vx_ofW (cc := cX7_dayOf) (maxL := 4) (ret := (some .int)) (by decide +kernel) rfl ?_
  intro p e s m args below meth c s₁ B hml hno hv
  obtain ⟨rfl, hH, hP, hK, hB0, hE⟩ := hv
  subst hH
  have hx := B.exec
  have hb := B.bytes
  have hr := B.returns
  have hts := atoms_spec (ws := (wz yX7_dayOf cX7_dayOf 4 (some .int))) B.pre
  have hown : s.vm.findClass RX7 = some m.cls := findClass_of_methodNamed B.named
  have hlocks := B.notSynchronized
  have hAB : ∀ q : Nat, s.heap.size ≤ q → B0 ≤ q := fun q h => Nat.le_trans hB0 h
  have hA : ∀ q : Nat, s.heap.size ≤ q → s.heap.size ≤ q := fun _ h => h
  have hS : va_S (fun q => s.heap.size ≤ q) s.heap s.heap [] := va_S.rf
  have hBn := fun (H : Heap) (locs : List Loc) (h : va_S (fun q => s.heap.size ≤ q) s.heap H locs) => Nat.le_trans hB0 h.1
  have hEn := fun (H : Heap) (locs : List Loc) (h : va_S (fun q => s.heap.size ≤ q) s.heap H locs) => gE_now hE h hAB
  have hl := lv_entry ([.ref a0, .int v1, .int v2, .int v3]) (n := 4) (Nat.le_of_ble_eq_true rfl)
  rw [lg_entry_eq]
  generalize (lg_sl ([.ref a0, .int v1, .int v2, .int v3]) ++ List.replicate (4 - (lg_sl ([.ref a0, .int v1, .int v2, .int v3])).length) Slot.unset).toArray = ls at hl ⊢
  have hl : lv_has ls 4 [(0, .ref a0), (1, .int v1), (2, .int v2), (3, .int v3)] := hl
  obtain ⟨H, hHe⟩ : ∃ H : Heap, H = s.heap := ⟨_, rfl⟩
  have hP : va_P D vwCl [oX7 a0 a_now a_past c_acts c_nextSlot a_plan a_picker a_rest a_packed] H := by rw [hHe]; exact hP
  have hS : va_S (fun q => s.heap.size ≤ q) s.heap H [] := by rw [hHe]; exact hS
  refine W_heq hHe ?_
  unfold f_X7_dayOf at hf
  refine lv_iload_n hx hb dX7_dayOf_0 rfl (lv_at hl 1 rfl) ?_
  refine lv_sipush (v := 2024) hx hb dX7_dayOf_1 (by decide) ?_
  refine lv_sipush (v := 2030) hx hb dX7_dayOf_4 (by decide) ?_
  obtain ⟨r1, hc2, hf⟩ := ob1 hf
  refine rx_callv (r9 := r1) (vx_runS (As := [.int v1, .int 2024, .int 2030]) (rest := []) ⟨hx, hb, hml, hown, hts⟩ (k_X7_needRange l hl0 D cI cJ cZ cS B0 H v1 2024 2030 r1 hc2) (va_cwS 3 hts (gS tb_492 tb_493 tb_1 tb_494) rfl rfl rfl (by decide +kernel) ⟨Nat.le_of_ble_eq_true rfl, Nat.le_of_ble_eq_true rfl⟩) ⟨rp_blind, rp_pre (hP.sub [] rfl) hK (hBn _ _ hS) (hEn _ _ hS)⟩ rfl rfl hl.1 rfl (lv_room (Nat.le_of_ble_eq_true rfl)) dX7_dayOf_7 ⟨Nat.le_of_ble_eq_true rfl, Nat.le_of_ble_eq_true rfl⟩) hS hA (fun E3 ce q9 H1 locs1 hE9 hz9 hk9 hS hq9 hv9 hcl9 => ?_) (fun hr9 => ?_)
  · subst hE9
    have hf := mx_e hf
    cases hf
    exact vx_out (fun x hx => (hno x hx).elim) hlocks hq9 hv9 hcl9 (fun t ht hal => ⟨(), trivial, rfl, hS.F ht⟩) hS.2.2 (Nat.le_of_ble_eq_true rfl) (Nat.le_of_ble_eq_true rfl)
  · subst hr9
    have hf := mx_o hf
    refine lv_iload_n hx hb dX7_dayOf_10 rfl (lv_at hl 3 rfl) ?_
    refine lv_iconst (v := 1) hx hb dX7_dayOf_11 (by decide) ?_
    refine lv_iload_n hx hb dX7_dayOf_12 rfl (lv_at hl 1 rfl) ?_
    refine lv_iload_n hx hb dX7_dayOf_13 rfl (lv_at hl 2 rfl) ?_
    obtain ⟨r4, hc5, hf⟩ := ob1 hf
    refine ro_calli (r := r4) (va_runS (As := [.int v1, .int v2]) (rest := [.int 1, .int v3]) ⟨hx, hb, hml, hown, hts⟩ (k_X0_daysOfMonth l hl0 D cI cJ cZ cS B0 H v1 v2 r4 hc5) (va_cwS 2 hts (gS tb_610 tb_611 tb_16 tb_612) rfl rfl rfl (by decide +kernel) ⟨Nat.le_of_ble_eq_true rfl, Nat.le_of_ble_eq_true rfl⟩) ⟨rp_blind, rp_pre (hP.sub [] rfl) hK (hBn _ _ hS) (hEn _ _ hS)⟩ rfl rfl hl.1 rfl (lv_room (Nat.le_of_ble_eq_true rfl)) dX7_dayOf_14 ⟨Nat.le_of_ble_eq_true rfl, Nat.le_of_ble_eq_true rfl⟩) ?_
    obtain ⟨r6, hc7, hf⟩ := ob1 hf
    refine rx_callv (r9 := r6) (vx_runS (As := [.int v3, .int 1, .int r4]) (rest := []) ⟨hx, hb, hml, hown, hts⟩ (k_X7_needRange l hl0 D cI cJ cZ cS B0 H v3 1 r4 r6 hc7) (va_cwS 3 hts (gS tb_492 tb_493 tb_1 tb_494) rfl rfl rfl (by decide +kernel) ⟨Nat.le_of_ble_eq_true rfl, Nat.le_of_ble_eq_true rfl⟩) ⟨rp_blind, rp_pre (hP.sub [] rfl) hK (hBn _ _ hS) (hEn _ _ hS)⟩ rfl rfl hl.1 rfl (lv_room (Nat.le_of_ble_eq_true rfl)) dX7_dayOf_17 ⟨Nat.le_of_ble_eq_true rfl, Nat.le_of_ble_eq_true rfl⟩) hS hA (fun E8 ce q9 H1 locs1 hE9 hz9 hk9 hS hq9 hv9 hcl9 => ?_) (fun hr9 => ?_)
    · subst hE9
      have hf := mx_e hf
      cases hf
      exact vx_out (fun x hx => (hno x hx).elim) hlocks hq9 hv9 hcl9 (fun t ht hal => ⟨(), trivial, rfl, hS.F ht⟩) hS.2.2 (Nat.le_of_ble_eq_true rfl) (Nat.le_of_ble_eq_true rfl)
    · subst hr9
      have hf := mx_o hf
      refine lv_iload_n hx hb dX7_dayOf_20 rfl (lv_at hl 1 rfl) ?_
      refine lv_iload_n hx hb dX7_dayOf_21 rfl (lv_at hl 2 rfl) ?_
      refine lv_iload_n hx hb dX7_dayOf_22 rfl (lv_at hl 3 rfl) ?_
      obtain ⟨r9, hc10, hf⟩ := ob1 hf
      refine ro_calli (r := r9) (va_runS (As := [.int v1, .int v2, .int v3]) (rest := []) ⟨hx, hb, hml, hown, hts⟩ (k_X0_numberOf l hl0 D cI cJ cZ cS B0 H v1 v2 v3 r9 hc10) (va_cwS 3 hts (gS tb_615 tb_616 tb_16 tb_617) rfl rfl rfl (by decide +kernel) ⟨Nat.le_of_ble_eq_true rfl, Nat.le_of_ble_eq_true rfl⟩) ⟨rp_blind, rp_pre (hP.sub [] rfl) hK (hBn _ _ hS) (hEn _ _ hS)⟩ rfl rfl hl.1 rfl (lv_room (Nat.le_of_ble_eq_true rfl)) dX7_dayOf_23 ⟨Nat.le_of_ble_eq_true rfl, Nat.le_of_ble_eq_true rfl⟩) ?_
      cases hf
      refine vx_ret ?_
      refine W.widen (k := 1) (n := 6) (Nat.le_of_ble_eq_true rfl) (Nat.le_of_ble_eq_true rfl) ?_
      exact W.iret hx hb hr (fun t ht hW => ⟨⟨_, (), rfl, rfl, (ht.trans hHe)⟩, hS.F ht⟩) hS.2.2 dX7_dayOf_26
def f_X7_dateOf (v1 : Int32) : Option ((Except String Int32)) :=
  bnd1 (f_X7_needRange v1 0 2556) (fun r1 => mx r1 (fun E3 => some (.error E3)) (fun _ =>
  (bnd1 (f_X0_dateAt v1) (fun r4 =>
  (some (.ok r4))))))
set_option maxHeartbeats 4000000 in
set_option maxRecDepth 100000 in
theorem k_X7_dateOf (l : Launch) (hl0 : l.stackTraces = false) (D : va_G) (cI cJ cZ cS : ClassId) (B0 : Nat) (H0 : Heap) (a0 a_now a_past a_plan a_picker a_rest a_packed : Nat) (c_acts : Int32) (c_nextSlot : Int32) (v1 : Int32) (r9 : Except String Int32)  (hf : f_X7_dateOf v1 = some r9) : vx_Met l yX7_dateOf (wz yX7_dateOf cX7_dateOf 2 (some .int)) ({ frames := 7, cells := 1, slots := 6, locals := 112 }) (va_Pc [.ref a0, .int v1] (rp D cI cJ cZ cS B0 [oX7 a0 a_now a_past c_acts c_nextSlot a_plan a_picker a_rest a_packed] H0)) (va_Qi (fun (r2 : Int32) (_ : Unit) => r9 = .ok r2) (fun _ t => t.heap = H0) (fun q => H0.size ≤ q)) (vx_X (fun (_ : Unit) => True) (fun E _ _ => r9 = .error E) (fun q => H0.size ≤ q)) 1 6 (fun q => H0.size ≤ q) := by
  refine vx_ofW (cc := cX7_dateOf) (maxL := 2) (ret := (some .int)) (by decide +kernel) rfl ?_
  intro p e s m args below meth c s₁ B hml hno hv
  obtain ⟨rfl, hH, hP, hK, hB0, hE⟩ := hv
  subst hH
  have hx := B.exec
  have hb := B.bytes
  have hr := B.returns
  have hts := atoms_spec (ws := (wz yX7_dateOf cX7_dateOf 2 (some .int))) B.pre
  have hown : s.vm.findClass RX7 = some m.cls := findClass_of_methodNamed B.named
  have hlocks := B.notSynchronized
  have hAB : ∀ q : Nat, s.heap.size ≤ q → B0 ≤ q := fun q h => Nat.le_trans hB0 h
  have hA : ∀ q : Nat, s.heap.size ≤ q → s.heap.size ≤ q := fun _ h => h
  have hS : va_S (fun q => s.heap.size ≤ q) s.heap s.heap [] := va_S.rf
  have hBn := fun (H : Heap) (locs : List Loc) (h : va_S (fun q => s.heap.size ≤ q) s.heap H locs) => Nat.le_trans hB0 h.1
  have hEn := fun (H : Heap) (locs : List Loc) (h : va_S (fun q => s.heap.size ≤ q) s.heap H locs) => gE_now hE h hAB
  have hl := lv_entry ([.ref a0, .int v1]) (n := 2) (Nat.le_of_ble_eq_true rfl)
  rw [lg_entry_eq]
  generalize (lg_sl ([.ref a0, .int v1]) ++ List.replicate (2 - (lg_sl ([.ref a0, .int v1])).length) Slot.unset).toArray = ls at hl ⊢
  have hl : lv_has ls 2 [(0, .ref a0), (1, .int v1)] := hl
  obtain ⟨H, hHe⟩ : ∃ H : Heap, H = s.heap := ⟨_, rfl⟩
  have hP : va_P D vwCl [oX7 a0 a_now a_past c_acts c_nextSlot a_plan a_picker a_rest a_packed] H := by rw [hHe]; exact hP
  have hS : va_S (fun q => s.heap.size ≤ q) s.heap H [] := by rw [hHe]; exact hS
  refine W_heq hHe ?_
  unfold f_X7_dateOf at hf
  refine lv_iload_n hx hb dX7_dateOf_0 rfl (lv_at hl 1 rfl) ?_
  refine lv_iconst (v := 0) hx hb dX7_dateOf_1 (by decide) ?_
  refine lv_sipush (v := 2556) hx hb dX7_dateOf_2 (by decide) ?_
  obtain ⟨r1, hc2, hf⟩ := ob1 hf
  refine rx_callv (r9 := r1) (vx_runS (As := [.int v1, .int 0, .int 2556]) (rest := []) ⟨hx, hb, hml, hown, hts⟩ (k_X7_needRange l hl0 D cI cJ cZ cS B0 H v1 0 2556 r1 hc2) (va_cwS 3 hts (gS tb_492 tb_493 tb_1 tb_494) rfl rfl rfl (by decide +kernel) ⟨Nat.le_of_ble_eq_true rfl, Nat.le_of_ble_eq_true rfl⟩) ⟨rp_blind, rp_pre (hP.sub [] rfl) hK (hBn _ _ hS) (hEn _ _ hS)⟩ rfl rfl hl.1 rfl (lv_room (Nat.le_of_ble_eq_true rfl)) dX7_dateOf_5 ⟨Nat.le_of_ble_eq_true rfl, Nat.le_of_ble_eq_true rfl⟩) hS hA (fun E3 ce q9 H1 locs1 hE9 hz9 hk9 hS hq9 hv9 hcl9 => ?_) (fun hr9 => ?_)
  · subst hE9
    have hf := mx_e hf
    cases hf
    exact vx_out (fun x hx => (hno x hx).elim) hlocks hq9 hv9 hcl9 (fun t ht hal => ⟨(), trivial, rfl, hS.F ht⟩) hS.2.2 (Nat.le_of_ble_eq_true rfl) (Nat.le_of_ble_eq_true rfl)
  · subst hr9
    have hf := mx_o hf
    refine lv_iload_n hx hb dX7_dateOf_8 rfl (lv_at hl 1 rfl) ?_
    obtain ⟨r4, hc5, hf⟩ := ob1 hf
    refine ro_calli (r := r4) (va_runS (As := [.int v1]) (rest := []) ⟨hx, hb, hml, hown, hts⟩ (k_X0_dateAt l hl0 D cI cJ cZ cS B0 H v1 r4 hc5) (va_cwS 1 hts (gS tb_629 tb_630 tb_16 tb_631) rfl rfl rfl (by decide +kernel) ⟨Nat.le_of_ble_eq_true rfl, Nat.le_of_ble_eq_true rfl⟩) ⟨rp_blind, rp_pre (hP.sub [] rfl) hK (hBn _ _ hS) (hEn _ _ hS)⟩ rfl rfl hl.1 rfl (lv_room (Nat.le_of_ble_eq_true rfl)) dX7_dateOf_9 ⟨Nat.le_of_ble_eq_true rfl, Nat.le_of_ble_eq_true rfl⟩) ?_
    cases hf
    refine vx_ret ?_
    refine W.widen (k := 1) (n := 6) (Nat.le_of_ble_eq_true rfl) (Nat.le_of_ble_eq_true rfl) ?_
    exact W.iret hx hb hr (fun t ht hW => ⟨⟨_, (), rfl, rfl, (ht.trans hHe)⟩, hS.F ht⟩) hS.2.2 dX7_dateOf_12
def f_X7_needLot (v1 : Int32) (c_now_lots_count : Int32) : Option ((Except String Unit)) :=
  bnd1 (f_X1_exists v1 c_now_lots_count) (fun r1 =>
  ((if r1 = 0 then some (.error "java/lang/IndexOutOfBoundsException")
  else some (.ok ()))))
set_option maxHeartbeats 4000000 in
set_option maxRecDepth 100000 in
theorem k_X7_needLot (l : Launch) (hl0 : l.stackTraces = false) (D : va_G) (cI cJ cZ cS : ClassId) (B0 : Nat) (H0 : Heap) (a0 a_now a_past a_plan a_picker a_rest a_packed a_now_items a_now_books a_now_terms a_now_shelves a_now_lots a_now_orders a_now_lots_product a_now_lots_last a_now_lots_cost a_now_lots_state a_now_lots_byLast : Nat) (c_acts : Int32) (c_nextSlot : Int32) (c_now_today : Int32) (c_now_products : Int32) (c_now_itemCount : Int32) (c_now_lots_count : Int32) (v1 : Int32) (r9 : Except String Unit)  (hf : f_X7_needLot v1 c_now_lots_count = some r9) : vx_Met l yX7_needLot (wz yX7_needLot cX7_needLot 2 none) ({ frames := 6, cells := 1, slots := 6, locals := 90 }) (va_Pc [.ref a0, .int v1] (rp D cI cJ cZ cS B0 [oX7 a0 a_now a_past c_acts c_nextSlot a_plan a_picker a_rest a_packed, oX6 a_now c_now_today c_now_products c_now_itemCount a_now_items a_now_books a_now_terms a_now_shelves a_now_lots a_now_orders, oX1 a_now_lots c_now_lots_count a_now_lots_product a_now_lots_last a_now_lots_cost a_now_lots_state a_now_lots_byLast] H0)) (va_Qv (fun (_ : Unit) => r9 = .ok ()) (fun _ t => t.heap = H0) (fun q => H0.size ≤ q)) (vx_X (fun (_ : Unit) => True) (fun E _ _ => r9 = .error E) (fun q => H0.size ≤ q)) 1 6 (fun q => H0.size ≤ q) := by
  refine vx_ofW (cc := cX7_needLot) (maxL := 2) (ret := none) (by decide +kernel) rfl ?_
  intro p e s m args below meth c s₁ B hml hno hv
  obtain ⟨rfl, hH, hP, hK, hB0, hE⟩ := hv
  subst hH
  have hx := B.exec
  have hb := B.bytes
  have hr := B.returns
  have hts := atoms_spec (ws := (wz yX7_needLot cX7_needLot 2 none)) B.pre
  have hown : s.vm.findClass RX7 = some m.cls := findClass_of_methodNamed B.named
  have hlocks := B.notSynchronized
  have hAB : ∀ q : Nat, s.heap.size ≤ q → B0 ≤ q := fun q h => Nat.le_trans hB0 h
  have hA : ∀ q : Nat, s.heap.size ≤ q → s.heap.size ≤ q := fun _ h => h
  have hS : va_S (fun q => s.heap.size ≤ q) s.heap s.heap [] := va_S.rf
  have hBn := fun (H : Heap) (locs : List Loc) (h : va_S (fun q => s.heap.size ≤ q) s.heap H locs) => Nat.le_trans hB0 h.1
  have hEn := fun (H : Heap) (locs : List Loc) (h : va_S (fun q => s.heap.size ≤ q) s.heap H locs) => gE_now hE h hAB
  have hl := lv_entry ([.ref a0, .int v1]) (n := 2) (Nat.le_of_ble_eq_true rfl)
  rw [lg_entry_eq]
  generalize (lg_sl ([.ref a0, .int v1]) ++ List.replicate (2 - (lg_sl ([.ref a0, .int v1])).length) Slot.unset).toArray = ls at hl ⊢
  have hl : lv_has ls 2 [(0, .ref a0), (1, .int v1)] := hl
  obtain ⟨H, hHe⟩ : ∃ H : Heap, H = s.heap := ⟨_, rfl⟩
  have hP : va_P D vwCl [oX7 a0 a_now a_past c_acts c_nextSlot a_plan a_picker a_rest a_packed, oX6 a_now c_now_today c_now_products c_now_itemCount a_now_items a_now_books a_now_terms a_now_shelves a_now_lots a_now_orders, oX1 a_now_lots c_now_lots_count a_now_lots_product a_now_lots_last a_now_lots_cost a_now_lots_state a_now_lots_byLast] H := by rw [hHe]; exact hP
  have hS : va_S (fun q => s.heap.size ≤ q) s.heap H [] := by rw [hHe]; exact hS
  refine W_heq hHe ?_
  unfold f_X7_needLot at hf
  refine lv_aload_n hx hb dX7_needLot_0 rfl (lv_at hl 0 rfl) ?_
  refine va_get (D := D) (ci := 6) (v := .ref a_now) (C := RX7) (T := TX7) (N := 8) hx hb hts (fun w h => mb (iX7 w h)) hown hK hP 0 rfl rfl 0 (by decide) (hts _ (mb tb_270)) (fun _ h9 => h9) rfl dX7_needLot_1 ?_
  refine va_get (D := D) (ci := 5) (v := .ref a_now_lots) (C := RX6) (T := TX6) (N := 9) hx hb hts (fun w h => mb (iX6 w h)) hown hK hP 1 rfl rfl 7 (by decide) (hts _ (mb tb_171)) (fun _ h9 => h9) rfl dX7_needLot_4 ?_
  refine lv_iload_n hx hb dX7_needLot_7 rfl (lv_at hl 1 rfl) ?_
  obtain ⟨r1, hc2, hf⟩ := ob1 hf
  refine ro_calli (r := r1) (va_runV (As := [.int v1]) (rest := []) ⟨hx, hb, hml, hown, hts⟩ (k_X1_exists l hl0 D cI cJ cZ cS B0 H a_now_lots a_now_lots_product a_now_lots_last a_now_lots_cost a_now_lots_state a_now_lots_byLast c_now_lots_count v1 r1 hc2) (cwV 1 hts (gV tb_702 tb_364 tb_365 tb_4 tb_366) rfl rfl rfl (by decide +kernel) ⟨Nat.le_of_ble_eq_true rfl, Nat.le_of_ble_eq_true rfl⟩) ⟨rp_blind, va_recv hK hP (ci := 0) (q0 := 2) rfl rfl, rp_pre (hP.sub [2] rfl) hK (hBn _ _ hS) (hEn _ _ hS)⟩ rfl rfl hl.1 rfl (lv_room (Nat.le_of_ble_eq_true rfl)) dX7_needLot_8 ⟨Nat.le_of_ble_eq_true rfl, Nat.le_of_ble_eq_true rfl⟩) ?_
  refine lv_if_ne (tgt := 25) hx hb dX7_needLot_11 (by decide) (fun h3 => ?_) (fun h3 => ?_)
  · have hf := ineg h3 hf
    cases hf
    refine vx_ret ?_
    refine W.widen (k := 1) (n := 6) (Nat.le_of_ble_eq_true rfl) (Nat.le_of_ble_eq_true rfl) ?_
    exact W.vret hx hb hr (fun t ht hW => ⟨⟨(), rfl, rfl, (ht.trans hHe)⟩, hS.F ht⟩) hS.2.2 dX7_needLot_25
  · have hf := ipos h3 hf
    cases hf
    exact thrW_IO (is := 341) (text := "no such lot") hx hb hl0 hown hts hE hAB (by decide) hS hl.1 dX7_needLot_14 dX7_needLot_17 dX7_needLot_18 dX7_needLot_21 dX7_needLot_24 hml hno (Nat.le_of_ble_eq_true rfl) (Nat.le_of_ble_eq_true rfl) (Nat.le_of_ble_eq_true rfl) (Nat.le_of_ble_eq_true rfl) hlocks (fun t hal hz9 hk9 => ⟨(), trivial, rfl, va_S_F hS hz9 hk9⟩) hS.2.2 (Nat.le_of_ble_eq_true rfl) (Nat.le_of_ble_eq_true rfl)
def f_X7_lotAt (v1 : Int32) (v2 : Int32) (c_now_shelves_places : Int32) (c_now_shelves_lot : Nat → Int32) (c_now_shelves_pieces : Nat → Int32) (c_now_lots_count : Int32) (c_now_lots_product : Nat → Int32) (c_now_lots_last : Nat → Int32) (c_now_lots_cost : Nat → Int32) (c_now_lots_state : Nat → Int32) (c_now_orders_count : Int32) (c_now_orders_had : Nat → Int32) : Option ((Except String Int32)) :=
  bnd1 (f_X7_needLot v1 c_now_lots_count) (fun r1 => mx r1 (fun E3 => some (.error E3)) (fun _ =>
  (bnd1 (f_X7_needRange v2 0 5) (fun r4 => mx r4 (fun E6 => some (.error E6)) (fun _ =>
  ((if v2 = 0 then gd v1 24 (some (.ok (c_now_lots_product v1.toNatClampNeg)))
  else (if v2 = 1 then bnd1 (f_X5_piecesOf v1 c_now_shelves_places c_now_shelves_lot c_now_shelves_pieces) (fun r10 =>
  (some (.ok r10)))
  else (if v2 = 2 then gd v1 24 (some (.ok (c_now_lots_last v1.toNatClampNeg)))
  else (if v2 = 3 then gd v1 24 (some (.ok (c_now_lots_cost v1.toNatClampNeg)))
  else (if v2 = 4 then gd v1 24 (some (.ok (c_now_lots_state v1.toNatClampNeg)))
  else bnd1 (f_X2_piecesOutOf v1 c_now_orders_count c_now_orders_had) (fun r18 =>
  (some (.ok r18))))))))))))))
set_option maxHeartbeats 4000000 in
set_option maxRecDepth 100000 in
theorem k_X7_lotAt (l : Launch) (hl0 : l.stackTraces = false) (D : va_G) (cI cJ cZ cS : ClassId) (B0 : Nat) (H0 : Heap) (a0 a_now a_past a_plan a_picker a_rest a_packed a_now_items a_now_books a_now_terms a_now_shelves a_now_lots a_now_orders a_now_shelves_lot a_now_shelves_pieces a_now_shelves_mark a_now_shelves_byDistance a_now_lots_product a_now_lots_last a_now_lots_cost a_now_lots_state a_now_lots_byLast a_now_orders_customer a_now_orders_product a_now_orders_open a_now_orders_due a_now_orders_life a_now_orders_byDue a_now_orders_had a_now_orders_stamps : Nat) (c_acts : Int32) (c_nextSlot : Int32) (c_now_today : Int32) (c_now_products : Int32) (c_now_itemCount : Int32) (c_now_shelves_lanes : Int32) (c_now_shelves_positions : Int32) (c_now_shelves_room : Int32) (c_now_shelves_gap : Int32) (c_now_shelves_places : Int32) (c_now_shelves_picked : Int64) (c_now_shelves_lot : Nat → Int32) (c_now_shelves_pieces : Nat → Int32) (c_now_lots_count : Int32) (c_now_lots_product : Nat → Int32) (c_now_lots_last : Nat → Int32) (c_now_lots_cost : Nat → Int32) (c_now_lots_state : Nat → Int32) (c_now_orders_count : Int32) (c_now_orders_gifts : Int32) (c_now_orders_had : Nat → Int32) (v1 : Int32) (v2 : Int32) (r9 : Except String Int32)  (hf : f_X7_lotAt v1 v2 c_now_shelves_places c_now_shelves_lot c_now_shelves_pieces c_now_lots_count c_now_lots_product c_now_lots_last c_now_lots_cost c_now_lots_state c_now_orders_count c_now_orders_had = some r9) : vx_Met l yX7_lotAt (wz yX7_lotAt cX7_lotAt 3 (some .int)) ({ frames := 7, cells := 1, slots := 6, locals := 112 }) (va_Pc [.ref a0, .int v1, .int v2] (rp D cI cJ cZ cS B0 [oX7 a0 a_now a_past c_acts c_nextSlot a_plan a_picker a_rest a_packed, oX6 a_now c_now_today c_now_products c_now_itemCount a_now_items a_now_books a_now_terms a_now_shelves a_now_lots a_now_orders, oX5 a_now_shelves c_now_shelves_lanes c_now_shelves_positions c_now_shelves_room c_now_shelves_gap c_now_shelves_places c_now_shelves_picked a_now_shelves_lot a_now_shelves_pieces a_now_shelves_mark a_now_shelves_byDistance, rI cI a_now_shelves_lot 48 c_now_shelves_lot, rI cI a_now_shelves_pieces 48 c_now_shelves_pieces, oX1 a_now_lots c_now_lots_count a_now_lots_product a_now_lots_last a_now_lots_cost a_now_lots_state a_now_lots_byLast, rI cI a_now_lots_product 24 c_now_lots_product, rI cI a_now_lots_last 24 c_now_lots_last, rI cI a_now_lots_cost 24 c_now_lots_cost, rI cI a_now_lots_state 24 c_now_lots_state, oX2 a_now_orders c_now_orders_count c_now_orders_gifts a_now_orders_customer a_now_orders_product a_now_orders_open a_now_orders_due a_now_orders_life a_now_orders_byDue a_now_orders_had a_now_orders_stamps, rI cI a_now_orders_had 960 c_now_orders_had] H0)) (va_Qi (fun (r2 : Int32) (_ : Unit) => r9 = .ok r2) (fun _ t => t.heap = H0) (fun q => H0.size ≤ q)) (vx_X (fun (_ : Unit) => True) (fun E _ _ => r9 = .error E) (fun q => H0.size ≤ q)) 1 6 (fun q => H0.size ≤ q) := by
  refine vx_ofW (cc := cX7_lotAt) (maxL := 3) (ret := (some .int)) (by decide +kernel) rfl ?_
  intro p e s m args below meth c s₁ B hml hno hv
  obtain ⟨rfl, hH, hP, hK, hB0, hE⟩ := hv
  subst hH
  have hx := B.exec
  have hb := B.bytes
  have hr := B.returns
  have hts := atoms_spec (ws := (wz yX7_lotAt cX7_lotAt 3 (some .int))) B.pre
  have hown : s.vm.findClass RX7 = some m.cls := findClass_of_methodNamed B.named
  have hlocks := B.notSynchronized
  have hAB : ∀ q : Nat, s.heap.size ≤ q → B0 ≤ q := fun q h => Nat.le_trans hB0 h
  have hA : ∀ q : Nat, s.heap.size ≤ q → s.heap.size ≤ q := fun _ h => h
  have hS : va_S (fun q => s.heap.size ≤ q) s.heap s.heap [] := va_S.rf
  have hBn := fun (H : Heap) (locs : List Loc) (h : va_S (fun q => s.heap.size ≤ q) s.heap H locs) => Nat.le_trans hB0 h.1
  have hEn := fun (H : Heap) (locs : List Loc) (h : va_S (fun q => s.heap.size ≤ q) s.heap H locs) => gE_now hE h hAB
  have hl := lv_entry ([.ref a0, .int v1, .int v2]) (n := 3) (Nat.le_of_ble_eq_true rfl)
  rw [lg_entry_eq]
  generalize (lg_sl ([.ref a0, .int v1, .int v2]) ++ List.replicate (3 - (lg_sl ([.ref a0, .int v1, .int v2])).length) Slot.unset).toArray = ls at hl ⊢
  have hl : lv_has ls 3 [(0, .ref a0), (1, .int v1), (2, .int v2)] := hl
  obtain ⟨H, hHe⟩ : ∃ H : Heap, H = s.heap := ⟨_, rfl⟩
  have hP : va_P D vwCl [oX7 a0 a_now a_past c_acts c_nextSlot a_plan a_picker a_rest a_packed, oX6 a_now c_now_today c_now_products c_now_itemCount a_now_items a_now_books a_now_terms a_now_shelves a_now_lots a_now_orders, oX5 a_now_shelves c_now_shelves_lanes c_now_shelves_positions c_now_shelves_room c_now_shelves_gap c_now_shelves_places c_now_shelves_picked a_now_shelves_lot a_now_shelves_pieces a_now_shelves_mark a_now_shelves_byDistance, rI cI a_now_shelves_lot 48 c_now_shelves_lot, rI cI a_now_shelves_pieces 48 c_now_shelves_pieces, oX1 a_now_lots c_now_lots_count a_now_lots_product a_now_lots_last a_now_lots_cost a_now_lots_state a_now_lots_byLast, rI cI a_now_lots_product 24 c_now_lots_product, rI cI a_now_lots_last 24 c_now_lots_last, rI cI a_now_lots_cost 24 c_now_lots_cost, rI cI a_now_lots_state 24 c_now_lots_state, oX2 a_now_orders c_now_orders_count c_now_orders_gifts a_now_orders_customer a_now_orders_product a_now_orders_open a_now_orders_due a_now_orders_life a_now_orders_byDue a_now_orders_had a_now_orders_stamps, rI cI a_now_orders_had 960 c_now_orders_had] H := by rw [hHe]; exact hP
  have hS : va_S (fun q => s.heap.size ≤ q) s.heap H [] := by rw [hHe]; exact hS
  refine W_heq hHe ?_
  unfold f_X7_lotAt at hf
  refine lv_aload_n hx hb dX7_lotAt_0 rfl (lv_at hl 0 rfl) ?_
  refine lv_iload_n hx hb dX7_lotAt_1 rfl (lv_at hl 1 rfl) ?_
  obtain ⟨r1, hc2, hf⟩ := ob1 hf
  refine rx_callv (r9 := r1) (vx_runV (As := [.int v1]) (rest := []) ⟨hx, hb, hml, hown, hts⟩ (k_X7_needLot l hl0 D cI cJ cZ cS B0 H a0 a_now a_past a_plan a_picker a_rest a_packed a_now_items a_now_books a_now_terms a_now_shelves a_now_lots a_now_orders a_now_lots_product a_now_lots_last a_now_lots_cost a_now_lots_state a_now_lots_byLast c_acts c_nextSlot c_now_today c_now_products c_now_itemCount c_now_lots_count v1 r1 hc2) (cwV 1 hts (gV tb_698 tb_700 ts_14 tb_1 tb_701) rfl rfl rfl (by decide +kernel) ⟨Nat.le_of_ble_eq_true rfl, Nat.le_of_ble_eq_true rfl⟩) ⟨rp_blind, va_recv hK hP (ci := 6) (q0 := 0) rfl rfl, rp_pre (hP.sub [0, 1, 5] rfl) hK (hBn _ _ hS) (hEn _ _ hS)⟩ rfl rfl hl.1 rfl (lv_room (Nat.le_of_ble_eq_true rfl)) dX7_lotAt_2 ⟨Nat.le_of_ble_eq_true rfl, Nat.le_of_ble_eq_true rfl⟩) hS hA (fun E3 ce q9 H1 locs1 hE9 hz9 hk9 hS hq9 hv9 hcl9 => ?_) (fun hr9 => ?_)
  · subst hE9
    have hf := mx_e hf
    cases hf
    exact vx_out (fun x hx => (hno x hx).elim) hlocks hq9 hv9 hcl9 (fun t ht hal => ⟨(), trivial, rfl, hS.F ht⟩) hS.2.2 (Nat.le_of_ble_eq_true rfl) (Nat.le_of_ble_eq_true rfl)
  · subst hr9
    have hf := mx_o hf
    refine lv_iload_n hx hb dX7_lotAt_5 rfl (lv_at hl 2 rfl) ?_
    refine lv_iconst (v := 0) hx hb dX7_lotAt_6 (by decide) ?_
    refine lv_iconst (v := 5) hx hb dX7_lotAt_7 (by decide) ?_
    obtain ⟨r4, hc5, hf⟩ := ob1 hf
    refine rx_callv (r9 := r4) (vx_runS (As := [.int v2, .int 0, .int 5]) (rest := []) ⟨hx, hb, hml, hown, hts⟩ (k_X7_needRange l hl0 D cI cJ cZ cS B0 H v2 0 5 r4 hc5) (va_cwS 3 hts (gS tb_492 tb_493 tb_1 tb_494) rfl rfl rfl (by decide +kernel) ⟨Nat.le_of_ble_eq_true rfl, Nat.le_of_ble_eq_true rfl⟩) ⟨rp_blind, rp_pre (hP.sub [] rfl) hK (hBn _ _ hS) (hEn _ _ hS)⟩ rfl rfl hl.1 rfl (lv_room (Nat.le_of_ble_eq_true rfl)) dX7_lotAt_8 ⟨Nat.le_of_ble_eq_true rfl, Nat.le_of_ble_eq_true rfl⟩) hS hA (fun E6 ce q9 H1 locs1 hE9 hz9 hk9 hS hq9 hv9 hcl9 => ?_) (fun hr9 => ?_)
    · subst hE9
      have hf := mx_e hf
      cases hf
      exact vx_out (fun x hx => (hno x hx).elim) hlocks hq9 hv9 hcl9 (fun t ht hal => ⟨(), trivial, rfl, hS.F ht⟩) hS.2.2 (Nat.le_of_ble_eq_true rfl) (Nat.le_of_ble_eq_true rfl)
    · subst hr9
      have hf := mx_o hf
      refine lv_iload_n hx hb dX7_lotAt_11 rfl (lv_at hl 2 rfl) ?_
      by_cases h7 : v2 = 0
      · have hf := ipos h7 hf
        refine lv_tableIn (off := 36) (tgt := 48) hx hb dX7_lotAt_12 (by rw [h7]; decide) (by rw [h7]; decide) (by rw [h7]; rfl) (by decide) ?_
        refine lv_aload_n hx hb dX7_lotAt_48 rfl (lv_at hl 0 rfl) ?_
        refine va_get (D := D) (ci := 6) (v := .ref a_now) (C := RX7) (T := TX7) (N := 8) hx hb hts (fun w h => mb (iX7 w h)) hown hK hP 0 rfl rfl 0 (by decide) (hts _ (mb tb_270)) (fun _ h9 => h9) rfl dX7_lotAt_49 ?_
        refine va_get (D := D) (ci := 5) (v := .ref a_now_lots) (C := RX6) (T := TX6) (N := 9) hx hb hts (fun w h => mb (iX6 w h)) hown hK hP 1 rfl rfl 7 (by decide) (hts _ (mb tb_171)) (fun _ h9 => h9) rfl dX7_lotAt_52 ?_
        refine va_get (D := D) (ci := 0) (v := .ref a_now_lots_product) (C := RX1) (T := TX1) (N := 6) hx hb hts (fun w h => mb (iX1 w h)) hown hK hP 5 rfl rfl 1 (by decide) (hts _ (mb tb_91)) (fun _ h9 => h9) rfl dX7_lotAt_55 ?_
        refine lv_iload_n hx hb dX7_lotAt_58 rfl (lv_at hl 1 rfl) ?_
        obtain ⟨h8, hf⟩ := ob_d hf
        refine va_iald hx hb hK hP 6 0 rfl rfl h8 dX7_lotAt_59 ?_
        cases hf
        refine vx_ret ?_
        refine W.widen (k := 1) (n := 6) (Nat.le_of_ble_eq_true rfl) (Nat.le_of_ble_eq_true rfl) ?_
        exact W.iret hx hb hr (fun t ht hW => ⟨⟨_, (), rfl, rfl, (ht.trans hHe)⟩, hS.F ht⟩) hS.2.2 dX7_lotAt_60
      · have hf := ineg h7 hf
        by_cases h9 : v2 = 1
        · have hf := ipos h9 hf
          refine lv_tableIn (off := 49) (tgt := 61) hx hb dX7_lotAt_12 (by rw [h9]; decide) (by rw [h9]; decide) (by rw [h9]; rfl) (by decide) ?_
          refine lv_aload_n hx hb dX7_lotAt_61 rfl (lv_at hl 0 rfl) ?_
          refine va_get (D := D) (ci := 6) (v := .ref a_now) (C := RX7) (T := TX7) (N := 8) hx hb hts (fun w h => mb (iX7 w h)) hown hK hP 0 rfl rfl 0 (by decide) (hts _ (mb tb_270)) (fun _ h9 => h9) rfl dX7_lotAt_62 ?_
          refine va_get (D := D) (ci := 5) (v := .ref a_now_shelves) (C := RX6) (T := TX6) (N := 9) hx hb hts (fun w h => mb (iX6 w h)) hown hK hP 1 rfl rfl 6 (by decide) (hts _ (mb tb_169)) (fun _ h9 => h9) rfl dX7_lotAt_65 ?_
          refine lv_iload_n hx hb dX7_lotAt_68 rfl (lv_at hl 1 rfl) ?_
          obtain ⟨r10, hc11, hf⟩ := ob1 hf
          refine ro_calli (r := r10) (va_runV (As := [.int v1]) (rest := []) ⟨hx, hb, hml, hown, hts⟩ (k_X5_piecesOf l hl0 D cI cJ cZ cS B0 H a_now_shelves a_now_shelves_lot a_now_shelves_pieces a_now_shelves_mark a_now_shelves_byDistance c_now_shelves_lanes c_now_shelves_positions c_now_shelves_room c_now_shelves_gap c_now_shelves_places c_now_shelves_picked c_now_shelves_lot c_now_shelves_pieces v1 r10 hc11) (cwV 1 hts (gV tb_718 tb_719 tb_720 tb_3 tb_721) rfl rfl rfl (by decide +kernel) ⟨Nat.le_of_ble_eq_true rfl, Nat.le_of_ble_eq_true rfl⟩) ⟨rp_blind, va_recv hK hP (ci := 4) (q0 := 2) rfl rfl, rp_pre (hP.sub [2, 3, 4] rfl) hK (hBn _ _ hS) (hEn _ _ hS)⟩ rfl rfl hl.1 rfl (lv_room (Nat.le_of_ble_eq_true rfl)) dX7_lotAt_69 ⟨Nat.le_of_ble_eq_true rfl, Nat.le_of_ble_eq_true rfl⟩) ?_
          cases hf
          refine vx_ret ?_
          refine W.widen (k := 1) (n := 6) (Nat.le_of_ble_eq_true rfl) (Nat.le_of_ble_eq_true rfl) ?_
          exact W.iret hx hb hr (fun t ht hW => ⟨⟨_, (), rfl, rfl, (ht.trans hHe)⟩, hS.F ht⟩) hS.2.2 dX7_lotAt_72
        · have hf := ineg h9 hf
          by_cases h12 : v2 = 2
          · have hf := ipos h12 hf
            refine lv_tableIn (off := 61) (tgt := 73) hx hb dX7_lotAt_12 (by rw [h12]; decide) (by rw [h12]; decide) (by rw [h12]; rfl) (by decide) ?_
            refine lv_aload_n hx hb dX7_lotAt_73 rfl (lv_at hl 0 rfl) ?_
            refine va_get (D := D) (ci := 6) (v := .ref a_now) (C := RX7) (T := TX7) (N := 8) hx hb hts (fun w h => mb (iX7 w h)) hown hK hP 0 rfl rfl 0 (by decide) (hts _ (mb tb_270)) (fun _ h9 => h9) rfl dX7_lotAt_74 ?_
            refine va_get (D := D) (ci := 5) (v := .ref a_now_lots) (C := RX6) (T := TX6) (N := 9) hx hb hts (fun w h => mb (iX6 w h)) hown hK hP 1 rfl rfl 7 (by decide) (hts _ (mb tb_171)) (fun _ h9 => h9) rfl dX7_lotAt_77 ?_
            refine va_get (D := D) (ci := 0) (v := .ref a_now_lots_last) (C := RX1) (T := TX1) (N := 6) hx hb hts (fun w h => mb (iX1 w h)) hown hK hP 5 rfl rfl 2 (by decide) (hts _ (mb tb_93)) (fun _ h9 => h9) rfl dX7_lotAt_80 ?_
            refine lv_iload_n hx hb dX7_lotAt_83 rfl (lv_at hl 1 rfl) ?_
            obtain ⟨h13, hf⟩ := ob_d hf
            refine va_iald hx hb hK hP 7 0 rfl rfl h13 dX7_lotAt_84 ?_
            cases hf
            refine vx_ret ?_
            refine W.widen (k := 1) (n := 6) (Nat.le_of_ble_eq_true rfl) (Nat.le_of_ble_eq_true rfl) ?_
            exact W.iret hx hb hr (fun t ht hW => ⟨⟨_, (), rfl, rfl, (ht.trans hHe)⟩, hS.F ht⟩) hS.2.2 dX7_lotAt_85
          · have hf := ineg h12 hf
            by_cases h14 : v2 = 3
            · have hf := ipos h14 hf
              refine lv_tableIn (off := 74) (tgt := 86) hx hb dX7_lotAt_12 (by rw [h14]; decide) (by rw [h14]; decide) (by rw [h14]; rfl) (by decide) ?_
              refine lv_aload_n hx hb dX7_lotAt_86 rfl (lv_at hl 0 rfl) ?_
              refine va_get (D := D) (ci := 6) (v := .ref a_now) (C := RX7) (T := TX7) (N := 8) hx hb hts (fun w h => mb (iX7 w h)) hown hK hP 0 rfl rfl 0 (by decide) (hts _ (mb tb_270)) (fun _ h9 => h9) rfl dX7_lotAt_87 ?_
              refine va_get (D := D) (ci := 5) (v := .ref a_now_lots) (C := RX6) (T := TX6) (N := 9) hx hb hts (fun w h => mb (iX6 w h)) hown hK hP 1 rfl rfl 7 (by decide) (hts _ (mb tb_171)) (fun _ h9 => h9) rfl dX7_lotAt_90 ?_
              refine va_get (D := D) (ci := 0) (v := .ref a_now_lots_cost) (C := RX1) (T := TX1) (N := 6) hx hb hts (fun w h => mb (iX1 w h)) hown hK hP 5 rfl rfl 3 (by decide) (hts _ (mb tb_95)) (fun _ h9 => h9) rfl dX7_lotAt_93 ?_
              refine lv_iload_n hx hb dX7_lotAt_96 rfl (lv_at hl 1 rfl) ?_
              obtain ⟨h15, hf⟩ := ob_d hf
              refine va_iald hx hb hK hP 8 0 rfl rfl h15 dX7_lotAt_97 ?_
              cases hf
              refine vx_ret ?_
              refine W.widen (k := 1) (n := 6) (Nat.le_of_ble_eq_true rfl) (Nat.le_of_ble_eq_true rfl) ?_
              exact W.iret hx hb hr (fun t ht hW => ⟨⟨_, (), rfl, rfl, (ht.trans hHe)⟩, hS.F ht⟩) hS.2.2 dX7_lotAt_98
            · have hf := ineg h14 hf
              by_cases h16 : v2 = 4
              · have hf := ipos h16 hf
                refine lv_tableIn (off := 87) (tgt := 99) hx hb dX7_lotAt_12 (by rw [h16]; decide) (by rw [h16]; decide) (by rw [h16]; rfl) (by decide) ?_
                refine lv_aload_n hx hb dX7_lotAt_99 rfl (lv_at hl 0 rfl) ?_
                refine va_get (D := D) (ci := 6) (v := .ref a_now) (C := RX7) (T := TX7) (N := 8) hx hb hts (fun w h => mb (iX7 w h)) hown hK hP 0 rfl rfl 0 (by decide) (hts _ (mb tb_270)) (fun _ h9 => h9) rfl dX7_lotAt_100 ?_
                refine va_get (D := D) (ci := 5) (v := .ref a_now_lots) (C := RX6) (T := TX6) (N := 9) hx hb hts (fun w h => mb (iX6 w h)) hown hK hP 1 rfl rfl 7 (by decide) (hts _ (mb tb_171)) (fun _ h9 => h9) rfl dX7_lotAt_103 ?_
                refine va_get (D := D) (ci := 0) (v := .ref a_now_lots_state) (C := RX1) (T := TX1) (N := 6) hx hb hts (fun w h => mb (iX1 w h)) hown hK hP 5 rfl rfl 4 (by decide) (hts _ (mb tb_97)) (fun _ h9 => h9) rfl dX7_lotAt_106 ?_
                refine lv_iload_n hx hb dX7_lotAt_109 rfl (lv_at hl 1 rfl) ?_
                obtain ⟨h17, hf⟩ := ob_d hf
                refine va_iald hx hb hK hP 9 0 rfl rfl h17 dX7_lotAt_110 ?_
                cases hf
                refine vx_ret ?_
                refine W.widen (k := 1) (n := 6) (Nat.le_of_ble_eq_true rfl) (Nat.le_of_ble_eq_true rfl) ?_
                exact W.iret hx hb hr (fun t ht hW => ⟨⟨_, (), rfl, rfl, (ht.trans hHe)⟩, hS.F ht⟩) hS.2.2 dX7_lotAt_111
              · have hf := ineg h16 hf
                refine lv_tableOut (tgt := 112) hx hb dX7_lotAt_12 (tsout 4 (by decide) (fun k hk => match k, hk with | 0, _ => h7 | 1, _ => h9 | 2, _ => h12 | 3, _ => h14 | 4, _ => h16 | k + 5, hk => absurd hk (by omega))) (by decide) ?_
                refine lv_aload_n hx hb dX7_lotAt_112 rfl (lv_at hl 0 rfl) ?_
                refine va_get (D := D) (ci := 6) (v := .ref a_now) (C := RX7) (T := TX7) (N := 8) hx hb hts (fun w h => mb (iX7 w h)) hown hK hP 0 rfl rfl 0 (by decide) (hts _ (mb tb_270)) (fun _ h9 => h9) rfl dX7_lotAt_113 ?_
                refine va_get (D := D) (ci := 5) (v := .ref a_now_orders) (C := RX6) (T := TX6) (N := 9) hx hb hts (fun w h => mb (iX6 w h)) hown hK hP 1 rfl rfl 8 (by decide) (hts _ (mb tb_173)) (fun _ h9 => h9) rfl dX7_lotAt_116 ?_
                refine lv_iload_n hx hb dX7_lotAt_119 rfl (lv_at hl 1 rfl) ?_
                obtain ⟨r18, hc19, hf⟩ := ob1 hf
                refine ro_calli (r := r18) (va_runV (As := [.int v1]) (rest := []) ⟨hx, hb, hml, hown, hts⟩ (k_X2_piecesOutOf l hl0 D cI cJ cZ cS B0 H a_now_orders a_now_orders_customer a_now_orders_product a_now_orders_open a_now_orders_due a_now_orders_life a_now_orders_byDue a_now_orders_had a_now_orders_stamps c_now_orders_count c_now_orders_gifts c_now_orders_had v1 r18 hc19) (cwV 1 hts (gV tb_722 tb_723 tb_724 tb_5 tb_725) rfl rfl rfl (by decide +kernel) ⟨Nat.le_of_ble_eq_true rfl, Nat.le_of_ble_eq_true rfl⟩) ⟨rp_blind, va_recv hK hP (ci := 1) (q0 := 10) rfl rfl, rp_pre (hP.sub [10, 11] rfl) hK (hBn _ _ hS) (hEn _ _ hS)⟩ rfl rfl hl.1 rfl (lv_room (Nat.le_of_ble_eq_true rfl)) dX7_lotAt_120 ⟨Nat.le_of_ble_eq_true rfl, Nat.le_of_ble_eq_true rfl⟩) ?_
                cases hf
                refine vx_ret ?_
                refine W.widen (k := 1) (n := 6) (Nat.le_of_ble_eq_true rfl) (Nat.le_of_ble_eq_true rfl) ?_
                exact W.iret hx hb hr (fun t ht hW => ⟨⟨_, (), rfl, rfl, (ht.trans hHe)⟩, hS.F ht⟩) hS.2.2 dX7_lotAt_123
def f_X7_lotCount (c_now_lots_count : Int32) : Option (Int32) :=
  some c_now_lots_count
set_option maxHeartbeats 4000000 in
set_option maxRecDepth 100000 in
theorem k_X7_lotCount (l : Launch) (hl0 : l.stackTraces = false) (D : va_G) (cI cJ cZ cS : ClassId) (B0 : Nat) (H0 : Heap) (a0 a_now a_past a_plan a_picker a_rest a_packed a_now_items a_now_books a_now_terms a_now_shelves a_now_lots a_now_orders a_now_lots_product a_now_lots_last a_now_lots_cost a_now_lots_state a_now_lots_byLast : Nat) (c_acts : Int32) (c_nextSlot : Int32) (c_now_today : Int32) (c_now_products : Int32) (c_now_itemCount : Int32) (c_now_lots_count : Int32) (r9 : Int32)  (hf : f_X7_lotCount c_now_lots_count = some r9) : Met l yX7_lotCount (wz yX7_lotCount cX7_lotCount 1 (some .int)) ({ frames := 0, cells := 0, slots := 0, locals := 0 }) (va_Pc [.ref a0] (rp D cI cJ cZ cS B0 [oX7 a0 a_now a_past c_acts c_nextSlot a_plan a_picker a_rest a_packed, oX6 a_now c_now_today c_now_products c_now_itemCount a_now_items a_now_books a_now_terms a_now_shelves a_now_lots a_now_orders, oX1 a_now_lots c_now_lots_count a_now_lots_product a_now_lots_last a_now_lots_cost a_now_lots_state a_now_lots_byLast] H0)) (va_Qi (fun (r2 : Int32) (_ : Unit) => r2 = r9) (fun _ t => t.heap = H0) (fun q => H0.size ≤ q)) 0 0 (fun q => H0.size ≤ q) := by
  refine Met.ofW (cc := cX7_lotCount) (maxL := 1) (ret := (some .int)) (by decide) rfl ?_
  intro p e s m args below meth c s₁ B hml hv
  obtain ⟨rfl, hH, hP, hK, hB0, hE⟩ := hv
  subst hH
  have hx := B.exec
  have hb := B.bytes
  have hr := B.returns
  have hts := atoms_spec (ws := (wz yX7_lotCount cX7_lotCount 1 (some .int))) B.pre
  have hown : s.vm.findClass RX7 = some m.cls := findClass_of_methodNamed B.named
  have hlocks := B.notSynchronized
  have hAB : ∀ q : Nat, s.heap.size ≤ q → B0 ≤ q := fun q h => Nat.le_trans hB0 h
  have hA : ∀ q : Nat, s.heap.size ≤ q → s.heap.size ≤ q := fun _ h => h
  have hS : va_S (fun q => s.heap.size ≤ q) s.heap s.heap [] := va_S.rf
  have hBn := fun (H : Heap) (locs : List Loc) (h : va_S (fun q => s.heap.size ≤ q) s.heap H locs) => Nat.le_trans hB0 h.1
  have hEn := fun (H : Heap) (locs : List Loc) (h : va_S (fun q => s.heap.size ≤ q) s.heap H locs) => gE_now hE h hAB
  have hl := lv_entry ([.ref a0]) (n := 1) (Nat.le_of_ble_eq_true rfl)
  rw [lg_entry_eq]
  generalize (lg_sl ([.ref a0]) ++ List.replicate (1 - (lg_sl ([.ref a0])).length) Slot.unset).toArray = ls at hl ⊢
  have hl : lv_has ls 1 [(0, .ref a0)] := hl
  obtain ⟨H, hHe⟩ : ∃ H : Heap, H = s.heap := ⟨_, rfl⟩
  have hP : va_P D vwCl [oX7 a0 a_now a_past c_acts c_nextSlot a_plan a_picker a_rest a_packed, oX6 a_now c_now_today c_now_products c_now_itemCount a_now_items a_now_books a_now_terms a_now_shelves a_now_lots a_now_orders, oX1 a_now_lots c_now_lots_count a_now_lots_product a_now_lots_last a_now_lots_cost a_now_lots_state a_now_lots_byLast] H := by rw [hHe]; exact hP
  have hS : va_S (fun q => s.heap.size ≤ q) s.heap H [] := by rw [hHe]; exact hS
  refine W_heq hHe ?_
  unfold f_X7_lotCount at hf
  refine lv_aload_n hx hb dX7_lotCount_0 rfl (lv_at hl 0 rfl) ?_
  refine va_get (D := D) (ci := 6) (v := .ref a_now) (C := RX7) (T := TX7) (N := 8) hx hb hts (fun w h => mb (iX7 w h)) hown hK hP 0 rfl rfl 0 (by decide) (hts _ (mb tb_270)) (fun _ h9 => h9) rfl dX7_lotCount_1 ?_
  refine va_get (D := D) (ci := 5) (v := .ref a_now_lots) (C := RX6) (T := TX6) (N := 9) hx hb hts (fun w h => mb (iX6 w h)) hown hK hP 1 rfl rfl 7 (by decide) (hts _ (mb tb_171)) (fun _ h9 => h9) rfl dX7_lotCount_4 ?_
  refine va_get (D := D) (ci := 0) (v := .int c_now_lots_count) (C := RX1) (T := TX1) (N := 6) hx hb hts (fun w h => mb (iX1 w h)) hown hK hP 2 rfl rfl 0 (by decide) (hts _ (mb tb_89)) (fun _ h9 => h9) rfl dX7_lotCount_7 ?_
  cases hf
  exact W.iret hx hb hr (fun t ht hW => ⟨⟨_, (), rfl, rfl, (ht.trans hHe)⟩, hS.F ht⟩) hS.2.2 dX7_lotCount_10
def f_X7_needProduct_J15 (c_now_products : Int32) : Option ((Except String Unit)) :=
  some (.error "java/lang/IndexOutOfBoundsException")
def f_X7_needProduct (v1 : Int32) (c_now_products : Int32) : Option ((Except String Unit)) :=
  (if v1 < 0 then f_X7_needProduct_J15 c_now_products
  else (if v1 < c_now_products then some (.ok ())
  else f_X7_needProduct_J15 c_now_products))
set_option maxHeartbeats 4000000 in
set_option maxRecDepth 100000 in
theorem k_X7_needProduct (l : Launch) (hl0 : l.stackTraces = false) (D : va_G) (cI cJ cZ cS : ClassId) (B0 : Nat) (H0 : Heap) (a0 a_now a_past a_plan a_picker a_rest a_packed a_now_items a_now_books a_now_terms a_now_shelves a_now_lots a_now_orders : Nat) (c_acts : Int32) (c_nextSlot : Int32) (c_now_today : Int32) (c_now_products : Int32) (c_now_itemCount : Int32) (v1 : Int32) (r9 : Except String Unit)  (hf : f_X7_needProduct v1 c_now_products = some r9) : vx_Met l yX7_needProduct (wz yX7_needProduct cX7_needProduct 2 none) ({ frames := 6, cells := 1, slots := 6, locals := 90 }) (va_Pc [.ref a0, .int v1] (rp D cI cJ cZ cS B0 [oX7 a0 a_now a_past c_acts c_nextSlot a_plan a_picker a_rest a_packed, oX6 a_now c_now_today c_now_products c_now_itemCount a_now_items a_now_books a_now_terms a_now_shelves a_now_lots a_now_orders] H0)) (va_Qv (fun (_ : Unit) => r9 = .ok ()) (fun _ t => t.heap = H0) (fun q => H0.size ≤ q)) (vx_X (fun (_ : Unit) => True) (fun E _ _ => r9 = .error E) (fun q => H0.size ≤ q)) 1 6 (fun q => H0.size ≤ q) := by
  refine vx_ofW (cc := cX7_needProduct) (maxL := 2) (ret := none) (by decide +kernel) rfl ?_
  intro p e s m args below meth c s₁ B hml hno hv
  obtain ⟨rfl, hH, hP, hK, hB0, hE⟩ := hv
  subst hH
  have hx := B.exec
  have hb := B.bytes
  have hr := B.returns
  have hts := atoms_spec (ws := (wz yX7_needProduct cX7_needProduct 2 none)) B.pre
  have hown : s.vm.findClass RX7 = some m.cls := findClass_of_methodNamed B.named
  have hlocks := B.notSynchronized
  have hAB : ∀ q : Nat, s.heap.size ≤ q → B0 ≤ q := fun q h => Nat.le_trans hB0 h
  have hA : ∀ q : Nat, s.heap.size ≤ q → s.heap.size ≤ q := fun _ h => h
  have hS : va_S (fun q => s.heap.size ≤ q) s.heap s.heap [] := va_S.rf
  have hBn := fun (H : Heap) (locs : List Loc) (h : va_S (fun q => s.heap.size ≤ q) s.heap H locs) => Nat.le_trans hB0 h.1
  have hEn := fun (H : Heap) (locs : List Loc) (h : va_S (fun q => s.heap.size ≤ q) s.heap H locs) => gE_now hE h hAB
  have hl := lv_entry ([.ref a0, .int v1]) (n := 2) (Nat.le_of_ble_eq_true rfl)
  rw [lg_entry_eq]
  generalize (lg_sl ([.ref a0, .int v1]) ++ List.replicate (2 - (lg_sl ([.ref a0, .int v1])).length) Slot.unset).toArray = ls at hl ⊢
  have hl : lv_has ls 2 [(0, .ref a0), (1, .int v1)] := hl
  obtain ⟨H, hHe⟩ : ∃ H : Heap, H = s.heap := ⟨_, rfl⟩
  have hP : va_P D vwCl [oX7 a0 a_now a_past c_acts c_nextSlot a_plan a_picker a_rest a_packed, oX6 a_now c_now_today c_now_products c_now_itemCount a_now_items a_now_books a_now_terms a_now_shelves a_now_lots a_now_orders] H := by rw [hHe]; exact hP
  have hS : va_S (fun q => s.heap.size ≤ q) s.heap H [] := by rw [hHe]; exact hS
  refine W_heq hHe ?_
  unfold f_X7_needProduct at hf
  refine gen_go (fun WW hWW => ?_)
  have hJ15 : ∀ (_ : Unit), f_X7_needProduct_J15 c_now_products = some r9 → ∀ (ls : Array Slot), lv_has ls 2 [] → WW (F0 m 15 ls []) := by
    intro _ hf ls hl
    unfold f_X7_needProduct_J15 at hf
    refine (hWW _).mpr ?_
    cases hf
    exact thrW_IO (is := 336) (text := "no such product") hx hb hl0 hown hts hE hAB (by decide) hS hl.1 dX7_needProduct_15 dX7_needProduct_18 dX7_needProduct_19 dX7_needProduct_22 dX7_needProduct_25 hml hno (Nat.le_of_ble_eq_true rfl) (Nat.le_of_ble_eq_true rfl) (Nat.le_of_ble_eq_true rfl) (Nat.le_of_ble_eq_true rfl) hlocks (fun t hal hz9 hk9 => ⟨(), trivial, rfl, va_S_F hS hz9 hk9⟩) hS.2.2 (Nat.le_of_ble_eq_true rfl) (Nat.le_of_ble_eq_true rfl)
  refine (hWW _).mpr ?_
  refine lv_iload_n hx hb dX7_needProduct_0 rfl (lv_at hl 1 rfl) ?_
  refine lv_if_lt (tgt := 15) hx hb dX7_needProduct_1 (by decide) (fun h1 => ?_) (fun h1 => ?_)
  · have hf := ipos h1 hf
    exact (hWW _).mp (hJ15 () hf ls (lv_sub hl [] rfl))
  · have hf := ineg h1 hf
    refine lv_iload_n hx hb dX7_needProduct_4 rfl (lv_at hl 1 rfl) ?_
    refine lv_aload_n hx hb dX7_needProduct_5 rfl (lv_at hl 0 rfl) ?_
    refine va_get (D := D) (ci := 6) (v := .ref a_now) (C := RX7) (T := TX7) (N := 8) hx hb hts (fun w h => mb (iX7 w h)) hown hK hP 0 rfl rfl 0 (by decide) (hts _ (mb tb_270)) (fun _ h9 => h9) rfl dX7_needProduct_6 ?_
    refine va_get (D := D) (ci := 5) (v := .int c_now_products) (C := RX6) (T := TX6) (N := 9) hx hb hts (fun w h => mb (iX6 w h)) hown hK hP 1 rfl rfl 1 (by decide) (hts _ (mb tb_159)) (fun _ h9 => h9) rfl dX7_needProduct_9 ?_
    refine lv_icmp_lt (tgt := 26) hx hb dX7_needProduct_12 (by decide) (fun h2 => ?_) (fun h2 => ?_)
    · have hf := ipos h2 hf
      cases hf
      refine vx_ret ?_
      refine W.widen (k := 1) (n := 6) (Nat.le_of_ble_eq_true rfl) (Nat.le_of_ble_eq_true rfl) ?_
      exact W.vret hx hb hr (fun t ht hW => ⟨⟨(), rfl, rfl, (ht.trans hHe)⟩, hS.F ht⟩) hS.2.2 dX7_needProduct_26
    · have hf := ineg h2 hf
      exact (hWW _).mp (hJ15 () hf ls (lv_sub hl [] rfl))
def f_X7_stock_L23_J62 (n1 : Int32) (n2 : Int32) (n3 : Int32) (c_now_products : Int32) (c_now_shelves_places : Int32) (c_now_shelves_lot : Nat → Int32) (c_now_shelves_pieces : Nat → Int32) (c_now_lots_count : Int32) (c_now_lots_product : Nat → Int32) (c_rest : Nat → Int32) : Option ((Int32 × Int32) ⊕ Int32) :=
  some (.inl (n2, n3 + 1))
def f_X7_stock_L23 (n1 : Int32) (c_now_products : Int32) (c_now_shelves_places : Int32) (c_now_shelves_lot : Nat → Int32) (c_now_shelves_pieces : Nat → Int32) (c_now_lots_count : Int32) (c_now_lots_product : Nat → Int32) (c_rest : Nat → Int32) (n2 : Int32) (n3 : Int32) : Option ((Int32 × Int32) ⊕ Int32) :=
  (if c_now_lots_count ≤ n3 then some (.inr n2)
  else gd n3 24 ((if (c_now_lots_product n3.toNatClampNeg) = n1 then gd n3 24 (f_X7_stock_L23_J62 n1 (n2 + (c_rest n3.toNatClampNeg)) n3 c_now_products c_now_shelves_places c_now_shelves_lot c_now_shelves_pieces c_now_lots_count c_now_lots_product c_rest)
  else f_X7_stock_L23_J62 n1 n2 n3 c_now_products c_now_shelves_places c_now_shelves_lot c_now_shelves_pieces c_now_lots_count c_now_lots_product c_rest)))
def f_X7_stock (v1 : Int32) (c_now_products : Int32) (c_now_shelves_places : Int32) (c_now_shelves_lot : Nat → Int32) (c_now_shelves_pieces : Nat → Int32) (c_now_lots_count : Int32) (c_now_lots_product : Nat → Int32) (c_rest : Nat → Int32) : Option ((Except String Int32) × (Nat → Int32)) :=
  bnd1 (f_X7_needProduct v1 c_now_products) (fun r1 => mx r1 (fun E3 => some (.error E3, c_rest)) (fun _ =>
  (bnd1 (f_X5_countLots c_now_shelves_places c_now_shelves_lot c_now_shelves_pieces c_rest) (fun o6 =>
  ((bnd1 (loop (fun z => f_X7_stock_L23 v1 c_now_products c_now_shelves_places c_now_shelves_lot c_now_shelves_pieces c_now_lots_count c_now_lots_product o6 z.1 z.2) fu (0, 0)) fun m12 =>
  some (.ok m12, o6)))))))
set_option maxHeartbeats 4000000 in
set_option maxRecDepth 100000 in
theorem k_X7_stock (l : Launch) (hl0 : l.stackTraces = false) (D : va_G) (cI cJ cZ cS : ClassId) (B0 : Nat) (sz : Nat) (a0 a_now a_past a_plan a_picker a_rest a_packed a_now_items a_now_books a_now_terms a_now_shelves a_now_lots a_now_orders a_now_shelves_lot a_now_shelves_pieces a_now_shelves_mark a_now_shelves_byDistance a_now_lots_product a_now_lots_last a_now_lots_cost a_now_lots_state a_now_lots_byLast : Nat) (c_acts : Int32) (c_nextSlot : Int32) (c_now_today : Int32) (c_now_products : Int32) (c_now_itemCount : Int32) (c_now_shelves_lanes : Int32) (c_now_shelves_positions : Int32) (c_now_shelves_room : Int32) (c_now_shelves_gap : Int32) (c_now_shelves_places : Int32) (c_now_shelves_picked : Int64) (c_now_shelves_lot : Nat → Int32) (c_now_shelves_pieces : Nat → Int32) (c_now_lots_count : Int32) (c_now_lots_product : Nat → Int32) (c_rest : Nat → Int32) (v1 : Int32) (r9 : Except String Int32) (oc_rest : Nat → Int32)  (hf : f_X7_stock v1 c_now_products c_now_shelves_places c_now_shelves_lot c_now_shelves_pieces c_now_lots_count c_now_lots_product c_rest = some (r9, oc_rest)) : vx_Met l yX7_stock (wz yX7_stock cX7_stock 4 (some .int)) ({ frames := 7, cells := 1, slots := 6, locals := 111 }) (va_Pc [.ref a0, .int v1] (wp D cI cJ cZ cS B0 [oX7 a0 a_now a_past c_acts c_nextSlot a_plan a_picker a_rest a_packed, oX6 a_now c_now_today c_now_products c_now_itemCount a_now_items a_now_books a_now_terms a_now_shelves a_now_lots a_now_orders, oX5 a_now_shelves c_now_shelves_lanes c_now_shelves_positions c_now_shelves_room c_now_shelves_gap c_now_shelves_places c_now_shelves_picked a_now_shelves_lot a_now_shelves_pieces a_now_shelves_mark a_now_shelves_byDistance, rI cI a_now_shelves_lot 48 c_now_shelves_lot, rI cI a_now_shelves_pieces 48 c_now_shelves_pieces, oX1 a_now_lots c_now_lots_count a_now_lots_product a_now_lots_last a_now_lots_cost a_now_lots_state a_now_lots_byLast, rI cI a_now_lots_product 24 c_now_lots_product, rI cI a_rest 24 c_rest] sz)) (va_Qi (fun (r2 : Int32) (_ : Unit) => r9 = .ok r2) (fun _ t => va_P D vwCl [oX7 a0 a_now a_past c_acts c_nextSlot a_plan a_picker a_rest a_packed, oX6 a_now c_now_today c_now_products c_now_itemCount a_now_items a_now_books a_now_terms a_now_shelves a_now_lots a_now_orders, oX5 a_now_shelves c_now_shelves_lanes c_now_shelves_positions c_now_shelves_room c_now_shelves_gap c_now_shelves_places c_now_shelves_picked a_now_shelves_lot a_now_shelves_pieces a_now_shelves_mark a_now_shelves_byDistance, rI cI a_now_shelves_lot 48 c_now_shelves_lot, rI cI a_now_shelves_pieces 48 c_now_shelves_pieces, oX1 a_now_lots c_now_lots_count a_now_lots_product a_now_lots_last a_now_lots_cost a_now_lots_state a_now_lots_byLast, rI cI a_now_lots_product 24 c_now_lots_product, rI cI a_rest 24 oc_rest] t.heap) (va_A [oX7 a0 a_now a_past c_acts c_nextSlot a_plan a_picker a_rest a_packed, oX6 a_now c_now_today c_now_products c_now_itemCount a_now_items a_now_books a_now_terms a_now_shelves a_now_lots a_now_orders, oX5 a_now_shelves c_now_shelves_lanes c_now_shelves_positions c_now_shelves_room c_now_shelves_gap c_now_shelves_places c_now_shelves_picked a_now_shelves_lot a_now_shelves_pieces a_now_shelves_mark a_now_shelves_byDistance, rI cI a_now_shelves_lot 48 c_now_shelves_lot, rI cI a_now_shelves_pieces 48 c_now_shelves_pieces, oX1 a_now_lots c_now_lots_count a_now_lots_product a_now_lots_last a_now_lots_cost a_now_lots_state a_now_lots_byLast, rI cI a_now_lots_product 24 c_now_lots_product, rI cI a_rest 24 c_rest] sz)) (vx_X (fun (_ : Unit) => True) (fun E _ t => r9 = .error E ∧ va_P D vwCl [oX7 a0 a_now a_past c_acts c_nextSlot a_plan a_picker a_rest a_packed, oX6 a_now c_now_today c_now_products c_now_itemCount a_now_items a_now_books a_now_terms a_now_shelves a_now_lots a_now_orders, oX5 a_now_shelves c_now_shelves_lanes c_now_shelves_positions c_now_shelves_room c_now_shelves_gap c_now_shelves_places c_now_shelves_picked a_now_shelves_lot a_now_shelves_pieces a_now_shelves_mark a_now_shelves_byDistance, rI cI a_now_shelves_lot 48 c_now_shelves_lot, rI cI a_now_shelves_pieces 48 c_now_shelves_pieces, oX1 a_now_lots c_now_lots_count a_now_lots_product a_now_lots_last a_now_lots_cost a_now_lots_state a_now_lots_byLast, rI cI a_now_lots_product 24 c_now_lots_product, rI cI a_rest 24 oc_rest] t.heap) (va_A [oX7 a0 a_now a_past c_acts c_nextSlot a_plan a_picker a_rest a_packed, oX6 a_now c_now_today c_now_products c_now_itemCount a_now_items a_now_books a_now_terms a_now_shelves a_now_lots a_now_orders, oX5 a_now_shelves c_now_shelves_lanes c_now_shelves_positions c_now_shelves_room c_now_shelves_gap c_now_shelves_places c_now_shelves_picked a_now_shelves_lot a_now_shelves_pieces a_now_shelves_mark a_now_shelves_byDistance, rI cI a_now_shelves_lot 48 c_now_shelves_lot, rI cI a_now_shelves_pieces 48 c_now_shelves_pieces, oX1 a_now_lots c_now_lots_count a_now_lots_product a_now_lots_last a_now_lots_cost a_now_lots_state a_now_lots_byLast, rI cI a_now_lots_product 24 c_now_lots_product, rI cI a_rest 24 c_rest] sz)) 1 6 (va_A [oX7 a0 a_now a_past c_acts c_nextSlot a_plan a_picker a_rest a_packed, oX6 a_now c_now_today c_now_products c_now_itemCount a_now_items a_now_books a_now_terms a_now_shelves a_now_lots a_now_orders, oX5 a_now_shelves c_now_shelves_lanes c_now_shelves_positions c_now_shelves_room c_now_shelves_gap c_now_shelves_places c_now_shelves_picked a_now_shelves_lot a_now_shelves_pieces a_now_shelves_mark a_now_shelves_byDistance, rI cI a_now_shelves_lot 48 c_now_shelves_lot, rI cI a_now_shelves_pieces 48 c_now_shelves_pieces, oX1 a_now_lots c_now_lots_count a_now_lots_product a_now_lots_last a_now_lots_cost a_now_lots_state a_now_lots_byLast, rI cI a_now_lots_product 24 c_now_lots_product, rI cI a_rest 24 c_rest] sz) := by
  refine vx_ofW (cc := cX7_stock) (maxL := 4) (ret := (some .int)) (by decide +kernel) rfl ?_
  intro p e s m args below meth c s₁ B hml hno hv
  obtain ⟨rfl, hsz, hP, hK, hD0, hB0, hE⟩ := hv
  subst hsz
  have hx := B.exec
  have hb := B.bytes
  have hr := B.returns
  have hts := atoms_spec (ws := (wz yX7_stock cX7_stock 4 (some .int))) B.pre
  have hown : s.vm.findClass RX7 = some m.cls := findClass_of_methodNamed B.named
  have hlocks := B.notSynchronized
  have hD := hD0.self (sz := s.heap.size)
  have hAB : ∀ q : Nat, va_A [oX7 a0 a_now a_past c_acts c_nextSlot a_plan a_picker a_rest a_packed, oX6 a_now c_now_today c_now_products c_now_itemCount a_now_items a_now_books a_now_terms a_now_shelves a_now_lots a_now_orders, oX5 a_now_shelves c_now_shelves_lanes c_now_shelves_positions c_now_shelves_room c_now_shelves_gap c_now_shelves_places c_now_shelves_picked a_now_shelves_lot a_now_shelves_pieces a_now_shelves_mark a_now_shelves_byDistance, rI cI a_now_shelves_lot 48 c_now_shelves_lot, rI cI a_now_shelves_pieces 48 c_now_shelves_pieces, oX1 a_now_lots c_now_lots_count a_now_lots_product a_now_lots_last a_now_lots_cost a_now_lots_state a_now_lots_byLast, rI cI a_now_lots_product 24 c_now_lots_product, rI cI a_rest 24 c_rest] s.heap.size q → B0 ≤ q := va_A_B hD0 hB0
  generalize hAe : va_A [oX7 a0 a_now a_past c_acts c_nextSlot a_plan a_picker a_rest a_packed, oX6 a_now c_now_today c_now_products c_now_itemCount a_now_items a_now_books a_now_terms a_now_shelves a_now_lots a_now_orders, oX5 a_now_shelves c_now_shelves_lanes c_now_shelves_positions c_now_shelves_room c_now_shelves_gap c_now_shelves_places c_now_shelves_picked a_now_shelves_lot a_now_shelves_pieces a_now_shelves_mark a_now_shelves_byDistance, rI cI a_now_shelves_lot 48 c_now_shelves_lot, rI cI a_now_shelves_pieces 48 c_now_shelves_pieces, oX1 a_now_lots c_now_lots_count a_now_lots_product a_now_lots_last a_now_lots_cost a_now_lots_state a_now_lots_byLast, rI cI a_now_lots_product 24 c_now_lots_product, rI cI a_rest 24 c_rest] s.heap.size = A at hD hAB ⊢
  have hA : ∀ q : Nat, s.heap.size ≤ q → A q := fun q h => by rw [← hAe]; exact Or.inr h
  have hFa := hA
  have hS : va_S A s.heap s.heap [] := va_S.rf
  have hBn := fun (H : Heap) (locs : List Loc) (h : va_S A s.heap H locs) => Nat.le_trans hB0 h.1
  have hEn := fun (H : Heap) (locs : List Loc) (h : va_S A s.heap H locs) => gE_now hE h hAB
  have hl := lv_entry ([.ref a0, .int v1]) (n := 4) (Nat.le_of_ble_eq_true rfl)
  rw [lg_entry_eq]
  generalize (lg_sl ([.ref a0, .int v1]) ++ List.replicate (4 - (lg_sl ([.ref a0, .int v1])).length) Slot.unset).toArray = ls at hl ⊢
  have hl : lv_has ls 4 [(0, .ref a0), (1, .int v1)] := hl
  obtain ⟨H, hHe⟩ : ∃ H : Heap, H = s.heap := ⟨_, rfl⟩
  have hP : va_P D vwCl [oX7 a0 a_now a_past c_acts c_nextSlot a_plan a_picker a_rest a_packed, oX6 a_now c_now_today c_now_products c_now_itemCount a_now_items a_now_books a_now_terms a_now_shelves a_now_lots a_now_orders, oX5 a_now_shelves c_now_shelves_lanes c_now_shelves_positions c_now_shelves_room c_now_shelves_gap c_now_shelves_places c_now_shelves_picked a_now_shelves_lot a_now_shelves_pieces a_now_shelves_mark a_now_shelves_byDistance, rI cI a_now_shelves_lot 48 c_now_shelves_lot, rI cI a_now_shelves_pieces 48 c_now_shelves_pieces, oX1 a_now_lots c_now_lots_count a_now_lots_product a_now_lots_last a_now_lots_cost a_now_lots_state a_now_lots_byLast, rI cI a_now_lots_product 24 c_now_lots_product, rI cI a_rest 24 c_rest] H := by rw [hHe]; exact hP
  have hS : va_S A s.heap H [] := by rw [hHe]; exact hS
  refine W_heq hHe ?_
  unfold f_X7_stock at hf
  refine gen_goW (fun WW hWW => ?_)
  have hL23 : ∀ (n : Nat) (n1 : Int32) (c_rest : Nat → Int32) (n2 : Int32) (n3 : Int32) (e2 : Int32), loop (fun z => f_X7_stock_L23 n1 c_now_products c_now_shelves_places c_now_shelves_lot c_now_shelves_pieces c_now_lots_count c_now_lots_product c_rest z.1 z.2) n (n2, n3) = some e2 → (∀ (H : Heap) (locs : List Loc) (ls : Array Slot), va_P D vwCl [oX7 a0 a_now a_past c_acts c_nextSlot a_plan a_picker a_rest a_packed, oX6 a_now c_now_today c_now_products c_now_itemCount a_now_items a_now_books a_now_terms a_now_shelves a_now_lots a_now_orders, oX5 a_now_shelves c_now_shelves_lanes c_now_shelves_positions c_now_shelves_room c_now_shelves_gap c_now_shelves_places c_now_shelves_picked a_now_shelves_lot a_now_shelves_pieces a_now_shelves_mark a_now_shelves_byDistance, rI cI a_now_shelves_lot 48 c_now_shelves_lot, rI cI a_now_shelves_pieces 48 c_now_shelves_pieces, oX1 a_now_lots c_now_lots_count a_now_lots_product a_now_lots_last a_now_lots_cost a_now_lots_state a_now_lots_byLast, rI cI a_now_lots_product 24 c_now_lots_product, rI cI a_rest 24 c_rest] H → va_D A [oX7 a0 a_now a_past c_acts c_nextSlot a_plan a_picker a_rest a_packed, oX6 a_now c_now_today c_now_products c_now_itemCount a_now_items a_now_books a_now_terms a_now_shelves a_now_lots a_now_orders, oX5 a_now_shelves c_now_shelves_lanes c_now_shelves_positions c_now_shelves_room c_now_shelves_gap c_now_shelves_places c_now_shelves_picked a_now_shelves_lot a_now_shelves_pieces a_now_shelves_mark a_now_shelves_byDistance, rI cI a_now_shelves_lot 48 c_now_shelves_lot, rI cI a_now_shelves_pieces 48 c_now_shelves_pieces, oX1 a_now_lots c_now_lots_count a_now_lots_product a_now_lots_last a_now_lots_cost a_now_lots_state a_now_lots_byLast, rI cI a_now_lots_product 24 c_now_lots_product, rI cI a_rest 24 c_rest] → va_S A s.heap H locs → lv_has ls 4 [(2, .int e2)] → WW H locs 0 0 (F0 m 68 ls [])) → ∀ (H : Heap) (locs : List Loc) (ls : Array Slot), va_P D vwCl [oX7 a0 a_now a_past c_acts c_nextSlot a_plan a_picker a_rest a_packed, oX6 a_now c_now_today c_now_products c_now_itemCount a_now_items a_now_books a_now_terms a_now_shelves a_now_lots a_now_orders, oX5 a_now_shelves c_now_shelves_lanes c_now_shelves_positions c_now_shelves_room c_now_shelves_gap c_now_shelves_places c_now_shelves_picked a_now_shelves_lot a_now_shelves_pieces a_now_shelves_mark a_now_shelves_byDistance, rI cI a_now_shelves_lot 48 c_now_shelves_lot, rI cI a_now_shelves_pieces 48 c_now_shelves_pieces, oX1 a_now_lots c_now_lots_count a_now_lots_product a_now_lots_last a_now_lots_cost a_now_lots_state a_now_lots_byLast, rI cI a_now_lots_product 24 c_now_lots_product, rI cI a_rest 24 c_rest] H → va_D A [oX7 a0 a_now a_past c_acts c_nextSlot a_plan a_picker a_rest a_packed, oX6 a_now c_now_today c_now_products c_now_itemCount a_now_items a_now_books a_now_terms a_now_shelves a_now_lots a_now_orders, oX5 a_now_shelves c_now_shelves_lanes c_now_shelves_positions c_now_shelves_room c_now_shelves_gap c_now_shelves_places c_now_shelves_picked a_now_shelves_lot a_now_shelves_pieces a_now_shelves_mark a_now_shelves_byDistance, rI cI a_now_shelves_lot 48 c_now_shelves_lot, rI cI a_now_shelves_pieces 48 c_now_shelves_pieces, oX1 a_now_lots c_now_lots_count a_now_lots_product a_now_lots_last a_now_lots_cost a_now_lots_state a_now_lots_byLast, rI cI a_now_lots_product 24 c_now_lots_product, rI cI a_rest 24 c_rest] → va_S A s.heap H locs → lv_has ls 4 [(0, .ref a0), (1, .int n1), (2, .int n2), (3, .int n3)] → WW H locs 0 0 (F0 m 23 ls []) := by
    intro n
    induction n with
    | zero =>
      intro n1 c_rest n2 n3 e2 hlp
      exact absurd hlp (by simp [loop])
    | succ n ih =>
      intro n1 c_rest n2 n3 e2 hlp K H locs ls hP hD hS hl
      obtain ⟨x9, hf, hlp⟩ := loop_s hlp
      have hf : f_X7_stock_L23 n1 c_now_products c_now_shelves_places c_now_shelves_lot c_now_shelves_pieces c_now_lots_count c_now_lots_product c_rest n2 n3 = some x9 := hf
      unfold f_X7_stock_L23 at hf
      have hJ62 : ∀ (n2 : Int32) (n3 : Int32), f_X7_stock_L23_J62 n1 n2 n3 c_now_products c_now_shelves_places c_now_shelves_lot c_now_shelves_pieces c_now_lots_count c_now_lots_product c_rest = some x9 → ∀ (H : Heap) (locs : List Loc) (ls : Array Slot), va_P D vwCl [oX7 a0 a_now a_past c_acts c_nextSlot a_plan a_picker a_rest a_packed, oX6 a_now c_now_today c_now_products c_now_itemCount a_now_items a_now_books a_now_terms a_now_shelves a_now_lots a_now_orders, oX5 a_now_shelves c_now_shelves_lanes c_now_shelves_positions c_now_shelves_room c_now_shelves_gap c_now_shelves_places c_now_shelves_picked a_now_shelves_lot a_now_shelves_pieces a_now_shelves_mark a_now_shelves_byDistance, rI cI a_now_shelves_lot 48 c_now_shelves_lot, rI cI a_now_shelves_pieces 48 c_now_shelves_pieces, oX1 a_now_lots c_now_lots_count a_now_lots_product a_now_lots_last a_now_lots_cost a_now_lots_state a_now_lots_byLast, rI cI a_now_lots_product 24 c_now_lots_product, rI cI a_rest 24 c_rest] H → va_D A [oX7 a0 a_now a_past c_acts c_nextSlot a_plan a_picker a_rest a_packed, oX6 a_now c_now_today c_now_products c_now_itemCount a_now_items a_now_books a_now_terms a_now_shelves a_now_lots a_now_orders, oX5 a_now_shelves c_now_shelves_lanes c_now_shelves_positions c_now_shelves_room c_now_shelves_gap c_now_shelves_places c_now_shelves_picked a_now_shelves_lot a_now_shelves_pieces a_now_shelves_mark a_now_shelves_byDistance, rI cI a_now_shelves_lot 48 c_now_shelves_lot, rI cI a_now_shelves_pieces 48 c_now_shelves_pieces, oX1 a_now_lots c_now_lots_count a_now_lots_product a_now_lots_last a_now_lots_cost a_now_lots_state a_now_lots_byLast, rI cI a_now_lots_product 24 c_now_lots_product, rI cI a_rest 24 c_rest] → va_S A s.heap H locs → lv_has ls 4 [(0, .ref a0), (1, .int n1), (2, .int n2), (3, .int n3)] → WW H locs 0 0 (F0 m 62 ls []) := by
        intro n2 n3 hf H locs ls hP hD hS hl
        unfold f_X7_stock_L23_J62 at hf
        refine (hWW _ _ _ _ _).mpr ?_
        refine lv_iinc (v := (n3 + 1)) (lv' := [(3, .int (n3 + 1)), (0, .ref a0), (1, .int n1), (2, .int n2)]) hx hb dX7_stock_62 hl (k := 3) rfl rfl (by decide) rfl (fun ls hl => ?_)
        refine lv_goto (tgt := 23) hx hb dX7_stock_65 (by decide) ?_
        obtain rfl := Option.some.inj hf
        exact (hWW _ _ _ _ _).mp (ih _ _ _ _ _ hlp K _ _ ls hP hD hS (lv_sub hl [1, 2, 3, 0] rfl))
      refine (hWW _ _ _ _ _).mpr ?_
      refine lv_iload_n hx hb dX7_stock_23 rfl (lv_at hl 3 rfl) ?_
      refine lv_aload_n hx hb dX7_stock_24 rfl (lv_at hl 0 rfl) ?_
      refine va_get (D := D) (ci := 6) (v := .ref a_now) (C := RX7) (T := TX7) (N := 8) hx hb hts (fun w h => mb (iX7 w h)) hown hK hP 0 rfl rfl 0 (by decide) (hts _ (mb tb_270)) (fun _ h9 => h9) rfl dX7_stock_25 ?_
      refine va_get (D := D) (ci := 5) (v := .ref a_now_lots) (C := RX6) (T := TX6) (N := 9) hx hb hts (fun w h => mb (iX6 w h)) hown hK hP 1 rfl rfl 7 (by decide) (hts _ (mb tb_171)) (fun _ h9 => h9) rfl dX7_stock_28 ?_
      refine va_get (D := D) (ci := 0) (v := .int c_now_lots_count) (C := RX1) (T := TX1) (N := 6) hx hb hts (fun w h => mb (iX1 w h)) hown hK hP 5 rfl rfl 0 (by decide) (hts _ (mb tb_89)) (fun _ h9 => h9) rfl dX7_stock_31 ?_
      refine lv_icmp_ge (tgt := 68) hx hb dX7_stock_34 (by decide) (fun h7 => ?_) (fun h7 => ?_)
      · have hf := ipos h7 hf
        obtain rfl := Option.some.inj hf
        cases lpx_r hlp
        exact (hWW _ _ _ _ _).mp (K _ _ ls hP hD hS (lv_sub hl [2] rfl))
      · have hf := ineg h7 hf
        refine lv_aload_n hx hb dX7_stock_37 rfl (lv_at hl 0 rfl) ?_
        refine va_get (D := D) (ci := 6) (v := .ref a_now) (C := RX7) (T := TX7) (N := 8) hx hb hts (fun w h => mb (iX7 w h)) hown hK hP 0 rfl rfl 0 (by decide) (hts _ (mb tb_270)) (fun _ h9 => h9) rfl dX7_stock_38 ?_
        refine va_get (D := D) (ci := 5) (v := .ref a_now_lots) (C := RX6) (T := TX6) (N := 9) hx hb hts (fun w h => mb (iX6 w h)) hown hK hP 1 rfl rfl 7 (by decide) (hts _ (mb tb_171)) (fun _ h9 => h9) rfl dX7_stock_41 ?_
        refine va_get (D := D) (ci := 0) (v := .ref a_now_lots_product) (C := RX1) (T := TX1) (N := 6) hx hb hts (fun w h => mb (iX1 w h)) hown hK hP 5 rfl rfl 1 (by decide) (hts _ (mb tb_91)) (fun _ h9 => h9) rfl dX7_stock_44 ?_
        refine lv_iload_n hx hb dX7_stock_47 rfl (lv_at hl 3 rfl) ?_
        obtain ⟨h8, hf⟩ := ob_d hf
        refine va_iald hx hb hK hP 6 0 rfl rfl h8 dX7_stock_48 ?_
        refine lv_iload_n hx hb dX7_stock_49 rfl (lv_at hl 1 rfl) ?_
        refine lv_icmp_ne (tgt := 62) hx hb dX7_stock_50 (by decide) (fun h9 => ?_) (fun h9 => ?_)
        · have hf := ineg h9 hf
          exact (hWW _ _ _ _ _).mp (hJ62 _ _ hf _ _ ls hP hD hS (lv_sub hl [0, 1, 2, 3] rfl))
        · have hf := ipos h9 hf
          refine lv_iload_n hx hb dX7_stock_53 rfl (lv_at hl 2 rfl) ?_
          refine lv_aload_n hx hb dX7_stock_54 rfl (lv_at hl 0 rfl) ?_
          refine va_get (D := D) (ci := 6) (v := .ref a_rest) (C := RX7) (T := TX7) (N := 8) hx hb hts (fun w h => mb (iX7 w h)) hown hK hP 0 rfl rfl 6 (by decide) (hts _ (mb tb_276)) (fun _ h9 => h9) rfl dX7_stock_55 ?_
          refine lv_iload_n hx hb dX7_stock_58 rfl (lv_at hl 3 rfl) ?_
          obtain ⟨h10, hf⟩ := ob_d hf
          refine va_iald hx hb hK hP 7 0 rfl rfl h10 dX7_stock_59 ?_
          refine lv_iadd hx hb dX7_stock_60 ?_
          refine lv_istore_n (lv' := [(2, .int (n2 + (c_rest n3.toNatClampNeg))), (0, .ref a0), (1, .int n1), (3, .int n3)]) hx hb dX7_stock_61 rfl hl (by decide) rfl (fun ls hl => ?_)
          exact (hWW _ _ _ _ _).mp (hJ62 _ _ hf _ _ ls hP hD hS (lv_sub hl [1, 2, 0, 3] rfl))
  refine (hWW _ _ _ _ _).mpr ?_
  refine lv_aload_n hx hb dX7_stock_0 rfl (lv_at hl 0 rfl) ?_
  refine lv_iload_n hx hb dX7_stock_1 rfl (lv_at hl 1 rfl) ?_
  obtain ⟨r1, hc2, hf⟩ := ob1 hf
  refine rx_callv (r9 := r1) (vx_runV (As := [.int v1]) (rest := []) ⟨hx, hb, hml, hown, hts⟩ (k_X7_needProduct l hl0 D cI cJ cZ cS B0 H a0 a_now a_past a_plan a_picker a_rest a_packed a_now_items a_now_books a_now_terms a_now_shelves a_now_lots a_now_orders c_acts c_nextSlot c_now_today c_now_products c_now_itemCount v1 r1 hc2) (cwV 1 hts (gV tb_647 tb_649 ts_12 tb_1 tb_650) rfl rfl rfl (by decide +kernel) ⟨Nat.le_of_ble_eq_true rfl, Nat.le_of_ble_eq_true rfl⟩) ⟨rp_blind, va_recv hK hP (ci := 6) (q0 := 0) rfl rfl, rp_pre (hP.sub [0, 1] rfl) hK (hBn _ _ hS) (hEn _ _ hS)⟩ rfl rfl hl.1 rfl (lv_room (Nat.le_of_ble_eq_true rfl)) dX7_stock_2 ⟨Nat.le_of_ble_eq_true rfl, Nat.le_of_ble_eq_true rfl⟩) hS hA (fun E3 ce q9 H1 locs1 hE9 hz9 hk9 hS hq9 hv9 hcl9 => ?_) (fun hr9 => ?_)
  · subst hE9
    have hf := mx_e hf
    cases hf
    exact vx_out (fun x hx => (hno x hx).elim) hlocks hq9 hv9 hcl9 (fun t ht hal => ⟨(), trivial, ⟨rfl, (by show va_P D vwCl _ t.heap; rw [ht]; exact va_Pk hP hk9)⟩, hS.F ht⟩) hS.2.2 (Nat.le_of_ble_eq_true rfl) (Nat.le_of_ble_eq_true rfl)
  · subst hr9
    have hf := mx_o hf
    refine lv_iconst (v := 0) hx hb dX7_stock_5 (by decide) ?_
    refine lv_istore_n (lv' := [(2, .int 0), (0, .ref a0), (1, .int v1)]) hx hb dX7_stock_6 rfl hl (by decide) rfl (fun ls hl => ?_)
    refine lv_aload_n hx hb dX7_stock_7 rfl (lv_at hl 1 rfl) ?_
    refine va_get (D := D) (ci := 6) (v := .ref a_now) (C := RX7) (T := TX7) (N := 8) hx hb hts (fun w h => mb (iX7 w h)) hown hK hP 0 rfl rfl 0 (by decide) (hts _ (mb tb_270)) (fun _ h9 => h9) rfl dX7_stock_8 ?_
    refine va_get (D := D) (ci := 5) (v := .ref a_now_shelves) (C := RX6) (T := TX6) (N := 9) hx hb hts (fun w h => mb (iX6 w h)) hown hK hP 1 rfl rfl 6 (by decide) (hts _ (mb tb_169)) (fun _ h9 => h9) rfl dX7_stock_11 ?_
    refine lv_aload_n hx hb dX7_stock_14 rfl (lv_at hl 1 rfl) ?_
    refine va_get (D := D) (ci := 6) (v := .ref a_rest) (C := RX7) (T := TX7) (N := 8) hx hb hts (fun w h => mb (iX7 w h)) hown hK hP 0 rfl rfl 6 (by decide) (hts _ (mb tb_276)) (fun _ h9 => h9) rfl dX7_stock_15 ?_
    obtain ⟨o6, hc5, hf⟩ := ob1 hf
    refine rw_callv (va_runV (As := [.ref a_rest]) (rest := []) ⟨hx, hb, hml, hown, hts⟩ (k_X5_countLots l hl0 D cI cJ cZ cS B0 H.size a_now_shelves a_now_shelves_lot a_now_shelves_pieces a_now_shelves_mark a_now_shelves_byDistance a_rest c_now_shelves_lanes c_now_shelves_positions c_now_shelves_room c_now_shelves_gap c_now_shelves_places c_now_shelves_picked c_now_shelves_lot c_now_shelves_pieces c_rest o6 hc5) (cwV 1 hts (gV tb_342 tb_343 tb_344 tb_3 tb_345) rfl rfl rfl (by decide +kernel) ⟨Nat.le_of_ble_eq_true rfl, Nat.le_of_ble_eq_true rfl⟩) ⟨wp_blind, va_recv hK hP (ci := 4) (q0 := 2) rfl rfl, wp_pre (hP.sub [2, 3, 4, 7] rfl) hK (va_D.sub (hD.weaken (fun _ _ _ h9 => hAB _ h9)) [2, 3, 4, 7] rfl rfl) (hBn _ _ hS) (hEn _ _ hS)⟩ rfl rfl hl.1 rfl (lv_room (Nat.le_of_ble_eq_true rfl)) dX7_stock_18 ⟨Nat.le_of_ble_eq_true rfl, Nat.le_of_ble_eq_true rfl⟩) hP hD hS hA [oX7 a0 a_now a_past c_acts c_nextSlot a_plan a_picker a_rest a_packed, oX6 a_now c_now_today c_now_products c_now_itemCount a_now_items a_now_books a_now_terms a_now_shelves a_now_lots a_now_orders, oX5 a_now_shelves c_now_shelves_lanes c_now_shelves_positions c_now_shelves_room c_now_shelves_gap c_now_shelves_places c_now_shelves_picked a_now_shelves_lot a_now_shelves_pieces a_now_shelves_mark a_now_shelves_byDistance, rI cI a_now_shelves_lot 48 c_now_shelves_lot, rI cI a_now_shelves_pieces 48 c_now_shelves_pieces, oX1 a_now_lots c_now_lots_count a_now_lots_product a_now_lots_last a_now_lots_cost a_now_lots_state a_now_lots_byLast, rI cI a_now_lots_product 24 c_now_lots_product, rI cI a_rest 24 o6] 8 [2, 3, 4, 7] [0, 1, 5, 6] rfl rfl rfl rfl (by decide +kernel) rfl (fun H locs hP hD hS => ?_)
    refine lv_iconst (v := 0) hx hb dX7_stock_21 (by decide) ?_
    refine lv_istore_n (lv' := [(3, .int 0), (2, .int 0), (0, .ref a0), (1, .int v1)]) hx hb dX7_stock_22 rfl hl (by decide) rfl (fun ls hl => ?_)
    obtain ⟨m12, hc11, hf⟩ := ob1 hf
    refine (hWW _ _ _ _ _).mp (hL23 fu _ _ _ _ _ hc11 (fun H locs ls hP hD hS hl => ?_) _ _ ls hP hD hS (lv_sub hl [2, 3, 1, 0] rfl))
    · refine (hWW _ _ _ _ _).mpr ?_
      refine lv_iload_n hx hb dX7_stock_68 rfl (lv_at hl 0 rfl) ?_
      cases hf
      refine vx_ret ?_
      refine W.widen (k := 1) (n := 6) (Nat.le_of_ble_eq_true rfl) (Nat.le_of_ble_eq_true rfl) ?_
      exact W.iret hx hb hr (fun t ht hW => ⟨⟨_, (), rfl, rfl, (by show va_P D vwCl _ t.heap; rw [ht]; exact hP)⟩, hS.F ht⟩) hS.2.2 dX7_stock_69
def f_X7_stockCost_L24_J82 (n1 : Int32) (n2 : Int64) (n4 : Int32) (c_now_products : Int32) (c_now_shelves_places : Int32) (c_now_shelves_lot : Nat → Int32) (c_now_shelves_pieces : Nat → Int32) (c_now_lots_count : Int32) (c_now_lots_product : Nat → Int32) (c_now_lots_cost : Nat → Int32) (c_rest : Nat → Int32) : Option ((Int64 × Int32) ⊕ Int64) :=
  some (.inl (n2, n4 + 1))
def f_X7_stockCost_L24 (n1 : Int32) (c_now_products : Int32) (c_now_shelves_places : Int32) (c_now_shelves_lot : Nat → Int32) (c_now_shelves_pieces : Nat → Int32) (c_now_lots_count : Int32) (c_now_lots_product : Nat → Int32) (c_now_lots_cost : Nat → Int32) (c_rest : Nat → Int32) (n2 : Int64) (n4 : Int32) : Option ((Int64 × Int32) ⊕ Int64) :=
  (if c_now_lots_count ≤ n4 then some (.inr n2)
  else gd n4 24 ((if (c_now_lots_product n4.toNatClampNeg) = n1 then gd n4 24 (gd n4 24 (f_X7_stockCost_L24_J82 n1 (n2 + (((c_now_lots_cost n4.toNatClampNeg).toInt64) * ((c_rest n4.toNatClampNeg).toInt64))) n4 c_now_products c_now_shelves_places c_now_shelves_lot c_now_shelves_pieces c_now_lots_count c_now_lots_product c_now_lots_cost c_rest))
  else f_X7_stockCost_L24_J82 n1 n2 n4 c_now_products c_now_shelves_places c_now_shelves_lot c_now_shelves_pieces c_now_lots_count c_now_lots_product c_now_lots_cost c_rest)))
def f_X7_stockCost (v1 : Int32) (c_now_products : Int32) (c_now_shelves_places : Int32) (c_now_shelves_lot : Nat → Int32) (c_now_shelves_pieces : Nat → Int32) (c_now_lots_count : Int32) (c_now_lots_product : Nat → Int32) (c_now_lots_cost : Nat → Int32) (c_rest : Nat → Int32) : Option ((Except String Int64) × (Nat → Int32)) :=
  bnd1 (f_X7_needProduct v1 c_now_products) (fun r1 => mx r1 (fun E3 => some (.error E3, c_rest)) (fun _ =>
  (bnd1 (f_X5_countLots c_now_shelves_places c_now_shelves_lot c_now_shelves_pieces c_rest) (fun o6 =>
  ((bnd1 (loop (fun z => f_X7_stockCost_L24 v1 c_now_products c_now_shelves_places c_now_shelves_lot c_now_shelves_pieces c_now_lots_count c_now_lots_product c_now_lots_cost o6 z.1 z.2) fu (0, 0)) fun m13 =>
  some (.ok m13, o6)))))))
set_option maxHeartbeats 4000000 in
set_option maxRecDepth 100000 in
theorem k_X7_stockCost (l : Launch) (hl0 : l.stackTraces = false) (D : va_G) (cI cJ cZ cS : ClassId) (B0 : Nat) (sz : Nat) (a0 a_now a_past a_plan a_picker a_rest a_packed a_now_items a_now_books a_now_terms a_now_shelves a_now_lots a_now_orders a_now_shelves_lot a_now_shelves_pieces a_now_shelves_mark a_now_shelves_byDistance a_now_lots_product a_now_lots_last a_now_lots_cost a_now_lots_state a_now_lots_byLast : Nat) (c_acts : Int32) (c_nextSlot : Int32) (c_now_today : Int32) (c_now_products : Int32) (c_now_itemCount : Int32) (c_now_shelves_lanes : Int32) (c_now_shelves_positions : Int32) (c_now_shelves_room : Int32) (c_now_shelves_gap : Int32) (c_now_shelves_places : Int32) (c_now_shelves_picked : Int64) (c_now_shelves_lot : Nat → Int32) (c_now_shelves_pieces : Nat → Int32) (c_now_lots_count : Int32) (c_now_lots_product : Nat → Int32) (c_now_lots_cost : Nat → Int32) (c_rest : Nat → Int32) (v1 : Int32) (r9 : Except String Int64) (oc_rest : Nat → Int32)  (hf : f_X7_stockCost v1 c_now_products c_now_shelves_places c_now_shelves_lot c_now_shelves_pieces c_now_lots_count c_now_lots_product c_now_lots_cost c_rest = some (r9, oc_rest)) : vx_Met l yX7_stockCost (wz yX7_stockCost cX7_stockCost 5 (some .long)) ({ frames := 7, cells := 1, slots := 6, locals := 111 }) (va_Pc [.ref a0, .int v1] (wp D cI cJ cZ cS B0 [oX7 a0 a_now a_past c_acts c_nextSlot a_plan a_picker a_rest a_packed, oX6 a_now c_now_today c_now_products c_now_itemCount a_now_items a_now_books a_now_terms a_now_shelves a_now_lots a_now_orders, oX5 a_now_shelves c_now_shelves_lanes c_now_shelves_positions c_now_shelves_room c_now_shelves_gap c_now_shelves_places c_now_shelves_picked a_now_shelves_lot a_now_shelves_pieces a_now_shelves_mark a_now_shelves_byDistance, rI cI a_now_shelves_lot 48 c_now_shelves_lot, rI cI a_now_shelves_pieces 48 c_now_shelves_pieces, oX1 a_now_lots c_now_lots_count a_now_lots_product a_now_lots_last a_now_lots_cost a_now_lots_state a_now_lots_byLast, rI cI a_now_lots_product 24 c_now_lots_product, rI cI a_now_lots_cost 24 c_now_lots_cost, rI cI a_rest 24 c_rest] sz)) (va_Ql (fun (r2 : Int64) (_ : Unit) => r9 = .ok r2) (fun _ t => va_P D vwCl [oX7 a0 a_now a_past c_acts c_nextSlot a_plan a_picker a_rest a_packed, oX6 a_now c_now_today c_now_products c_now_itemCount a_now_items a_now_books a_now_terms a_now_shelves a_now_lots a_now_orders, oX5 a_now_shelves c_now_shelves_lanes c_now_shelves_positions c_now_shelves_room c_now_shelves_gap c_now_shelves_places c_now_shelves_picked a_now_shelves_lot a_now_shelves_pieces a_now_shelves_mark a_now_shelves_byDistance, rI cI a_now_shelves_lot 48 c_now_shelves_lot, rI cI a_now_shelves_pieces 48 c_now_shelves_pieces, oX1 a_now_lots c_now_lots_count a_now_lots_product a_now_lots_last a_now_lots_cost a_now_lots_state a_now_lots_byLast, rI cI a_now_lots_product 24 c_now_lots_product, rI cI a_now_lots_cost 24 c_now_lots_cost, rI cI a_rest 24 oc_rest] t.heap) (va_A [oX7 a0 a_now a_past c_acts c_nextSlot a_plan a_picker a_rest a_packed, oX6 a_now c_now_today c_now_products c_now_itemCount a_now_items a_now_books a_now_terms a_now_shelves a_now_lots a_now_orders, oX5 a_now_shelves c_now_shelves_lanes c_now_shelves_positions c_now_shelves_room c_now_shelves_gap c_now_shelves_places c_now_shelves_picked a_now_shelves_lot a_now_shelves_pieces a_now_shelves_mark a_now_shelves_byDistance, rI cI a_now_shelves_lot 48 c_now_shelves_lot, rI cI a_now_shelves_pieces 48 c_now_shelves_pieces, oX1 a_now_lots c_now_lots_count a_now_lots_product a_now_lots_last a_now_lots_cost a_now_lots_state a_now_lots_byLast, rI cI a_now_lots_product 24 c_now_lots_product, rI cI a_now_lots_cost 24 c_now_lots_cost, rI cI a_rest 24 c_rest] sz)) (vx_X (fun (_ : Unit) => True) (fun E _ t => r9 = .error E ∧ va_P D vwCl [oX7 a0 a_now a_past c_acts c_nextSlot a_plan a_picker a_rest a_packed, oX6 a_now c_now_today c_now_products c_now_itemCount a_now_items a_now_books a_now_terms a_now_shelves a_now_lots a_now_orders, oX5 a_now_shelves c_now_shelves_lanes c_now_shelves_positions c_now_shelves_room c_now_shelves_gap c_now_shelves_places c_now_shelves_picked a_now_shelves_lot a_now_shelves_pieces a_now_shelves_mark a_now_shelves_byDistance, rI cI a_now_shelves_lot 48 c_now_shelves_lot, rI cI a_now_shelves_pieces 48 c_now_shelves_pieces, oX1 a_now_lots c_now_lots_count a_now_lots_product a_now_lots_last a_now_lots_cost a_now_lots_state a_now_lots_byLast, rI cI a_now_lots_product 24 c_now_lots_product, rI cI a_now_lots_cost 24 c_now_lots_cost, rI cI a_rest 24 oc_rest] t.heap) (va_A [oX7 a0 a_now a_past c_acts c_nextSlot a_plan a_picker a_rest a_packed, oX6 a_now c_now_today c_now_products c_now_itemCount a_now_items a_now_books a_now_terms a_now_shelves a_now_lots a_now_orders, oX5 a_now_shelves c_now_shelves_lanes c_now_shelves_positions c_now_shelves_room c_now_shelves_gap c_now_shelves_places c_now_shelves_picked a_now_shelves_lot a_now_shelves_pieces a_now_shelves_mark a_now_shelves_byDistance, rI cI a_now_shelves_lot 48 c_now_shelves_lot, rI cI a_now_shelves_pieces 48 c_now_shelves_pieces, oX1 a_now_lots c_now_lots_count a_now_lots_product a_now_lots_last a_now_lots_cost a_now_lots_state a_now_lots_byLast, rI cI a_now_lots_product 24 c_now_lots_product, rI cI a_now_lots_cost 24 c_now_lots_cost, rI cI a_rest 24 c_rest] sz)) 1 6 (va_A [oX7 a0 a_now a_past c_acts c_nextSlot a_plan a_picker a_rest a_packed, oX6 a_now c_now_today c_now_products c_now_itemCount a_now_items a_now_books a_now_terms a_now_shelves a_now_lots a_now_orders, oX5 a_now_shelves c_now_shelves_lanes c_now_shelves_positions c_now_shelves_room c_now_shelves_gap c_now_shelves_places c_now_shelves_picked a_now_shelves_lot a_now_shelves_pieces a_now_shelves_mark a_now_shelves_byDistance, rI cI a_now_shelves_lot 48 c_now_shelves_lot, rI cI a_now_shelves_pieces 48 c_now_shelves_pieces, oX1 a_now_lots c_now_lots_count a_now_lots_product a_now_lots_last a_now_lots_cost a_now_lots_state a_now_lots_byLast, rI cI a_now_lots_product 24 c_now_lots_product, rI cI a_now_lots_cost 24 c_now_lots_cost, rI cI a_rest 24 c_rest] sz) := by
  refine vx_ofW (cc := cX7_stockCost) (maxL := 5) (ret := (some .long)) (by decide +kernel) rfl ?_
  intro p e s m args below meth c s₁ B hml hno hv
  obtain ⟨rfl, hsz, hP, hK, hD0, hB0, hE⟩ := hv
  subst hsz
  have hx := B.exec
  have hb := B.bytes
  have hr := B.returns
  have hts := atoms_spec (ws := (wz yX7_stockCost cX7_stockCost 5 (some .long))) B.pre
  have hown : s.vm.findClass RX7 = some m.cls := findClass_of_methodNamed B.named
  have hlocks := B.notSynchronized
  have hD := hD0.self (sz := s.heap.size)
  have hAB : ∀ q : Nat, va_A [oX7 a0 a_now a_past c_acts c_nextSlot a_plan a_picker a_rest a_packed, oX6 a_now c_now_today c_now_products c_now_itemCount a_now_items a_now_books a_now_terms a_now_shelves a_now_lots a_now_orders, oX5 a_now_shelves c_now_shelves_lanes c_now_shelves_positions c_now_shelves_room c_now_shelves_gap c_now_shelves_places c_now_shelves_picked a_now_shelves_lot a_now_shelves_pieces a_now_shelves_mark a_now_shelves_byDistance, rI cI a_now_shelves_lot 48 c_now_shelves_lot, rI cI a_now_shelves_pieces 48 c_now_shelves_pieces, oX1 a_now_lots c_now_lots_count a_now_lots_product a_now_lots_last a_now_lots_cost a_now_lots_state a_now_lots_byLast, rI cI a_now_lots_product 24 c_now_lots_product, rI cI a_now_lots_cost 24 c_now_lots_cost, rI cI a_rest 24 c_rest] s.heap.size q → B0 ≤ q := va_A_B hD0 hB0
  generalize hAe : va_A [oX7 a0 a_now a_past c_acts c_nextSlot a_plan a_picker a_rest a_packed, oX6 a_now c_now_today c_now_products c_now_itemCount a_now_items a_now_books a_now_terms a_now_shelves a_now_lots a_now_orders, oX5 a_now_shelves c_now_shelves_lanes c_now_shelves_positions c_now_shelves_room c_now_shelves_gap c_now_shelves_places c_now_shelves_picked a_now_shelves_lot a_now_shelves_pieces a_now_shelves_mark a_now_shelves_byDistance, rI cI a_now_shelves_lot 48 c_now_shelves_lot, rI cI a_now_shelves_pieces 48 c_now_shelves_pieces, oX1 a_now_lots c_now_lots_count a_now_lots_product a_now_lots_last a_now_lots_cost a_now_lots_state a_now_lots_byLast, rI cI a_now_lots_product 24 c_now_lots_product, rI cI a_now_lots_cost 24 c_now_lots_cost, rI cI a_rest 24 c_rest] s.heap.size = A at hD hAB ⊢
  have hA : ∀ q : Nat, s.heap.size ≤ q → A q := fun q h => by rw [← hAe]; exact Or.inr h
  have hFa := hA
  have hS : va_S A s.heap s.heap [] := va_S.rf
  have hBn := fun (H : Heap) (locs : List Loc) (h : va_S A s.heap H locs) => Nat.le_trans hB0 h.1
  have hEn := fun (H : Heap) (locs : List Loc) (h : va_S A s.heap H locs) => gE_now hE h hAB
  have hl := lv_entry ([.ref a0, .int v1]) (n := 5) (Nat.le_of_ble_eq_true rfl)
  rw [lg_entry_eq]
  generalize (lg_sl ([.ref a0, .int v1]) ++ List.replicate (5 - (lg_sl ([.ref a0, .int v1])).length) Slot.unset).toArray = ls at hl ⊢
  have hl : lv_has ls 5 [(0, .ref a0), (1, .int v1)] := hl
  obtain ⟨H, hHe⟩ : ∃ H : Heap, H = s.heap := ⟨_, rfl⟩
  have hP : va_P D vwCl [oX7 a0 a_now a_past c_acts c_nextSlot a_plan a_picker a_rest a_packed, oX6 a_now c_now_today c_now_products c_now_itemCount a_now_items a_now_books a_now_terms a_now_shelves a_now_lots a_now_orders, oX5 a_now_shelves c_now_shelves_lanes c_now_shelves_positions c_now_shelves_room c_now_shelves_gap c_now_shelves_places c_now_shelves_picked a_now_shelves_lot a_now_shelves_pieces a_now_shelves_mark a_now_shelves_byDistance, rI cI a_now_shelves_lot 48 c_now_shelves_lot, rI cI a_now_shelves_pieces 48 c_now_shelves_pieces, oX1 a_now_lots c_now_lots_count a_now_lots_product a_now_lots_last a_now_lots_cost a_now_lots_state a_now_lots_byLast, rI cI a_now_lots_product 24 c_now_lots_product, rI cI a_now_lots_cost 24 c_now_lots_cost, rI cI a_rest 24 c_rest] H := by rw [hHe]; exact hP
  have hS : va_S A s.heap H [] := by rw [hHe]; exact hS
  refine W_heq hHe ?_
  unfold f_X7_stockCost at hf
  refine gen_goW (fun WW hWW => ?_)
  have hL24 : ∀ (n : Nat) (n1 : Int32) (c_rest : Nat → Int32) (n2 : Int64) (n4 : Int32) (e2 : Int64), loop (fun z => f_X7_stockCost_L24 n1 c_now_products c_now_shelves_places c_now_shelves_lot c_now_shelves_pieces c_now_lots_count c_now_lots_product c_now_lots_cost c_rest z.1 z.2) n (n2, n4) = some e2 → (∀ (H : Heap) (locs : List Loc) (ls : Array Slot), va_P D vwCl [oX7 a0 a_now a_past c_acts c_nextSlot a_plan a_picker a_rest a_packed, oX6 a_now c_now_today c_now_products c_now_itemCount a_now_items a_now_books a_now_terms a_now_shelves a_now_lots a_now_orders, oX5 a_now_shelves c_now_shelves_lanes c_now_shelves_positions c_now_shelves_room c_now_shelves_gap c_now_shelves_places c_now_shelves_picked a_now_shelves_lot a_now_shelves_pieces a_now_shelves_mark a_now_shelves_byDistance, rI cI a_now_shelves_lot 48 c_now_shelves_lot, rI cI a_now_shelves_pieces 48 c_now_shelves_pieces, oX1 a_now_lots c_now_lots_count a_now_lots_product a_now_lots_last a_now_lots_cost a_now_lots_state a_now_lots_byLast, rI cI a_now_lots_product 24 c_now_lots_product, rI cI a_now_lots_cost 24 c_now_lots_cost, rI cI a_rest 24 c_rest] H → va_D A [oX7 a0 a_now a_past c_acts c_nextSlot a_plan a_picker a_rest a_packed, oX6 a_now c_now_today c_now_products c_now_itemCount a_now_items a_now_books a_now_terms a_now_shelves a_now_lots a_now_orders, oX5 a_now_shelves c_now_shelves_lanes c_now_shelves_positions c_now_shelves_room c_now_shelves_gap c_now_shelves_places c_now_shelves_picked a_now_shelves_lot a_now_shelves_pieces a_now_shelves_mark a_now_shelves_byDistance, rI cI a_now_shelves_lot 48 c_now_shelves_lot, rI cI a_now_shelves_pieces 48 c_now_shelves_pieces, oX1 a_now_lots c_now_lots_count a_now_lots_product a_now_lots_last a_now_lots_cost a_now_lots_state a_now_lots_byLast, rI cI a_now_lots_product 24 c_now_lots_product, rI cI a_now_lots_cost 24 c_now_lots_cost, rI cI a_rest 24 c_rest] → va_S A s.heap H locs → lv_has ls 5 [(2, .long e2)] → WW H locs 0 0 (F0 m 88 ls [])) → ∀ (H : Heap) (locs : List Loc) (ls : Array Slot), va_P D vwCl [oX7 a0 a_now a_past c_acts c_nextSlot a_plan a_picker a_rest a_packed, oX6 a_now c_now_today c_now_products c_now_itemCount a_now_items a_now_books a_now_terms a_now_shelves a_now_lots a_now_orders, oX5 a_now_shelves c_now_shelves_lanes c_now_shelves_positions c_now_shelves_room c_now_shelves_gap c_now_shelves_places c_now_shelves_picked a_now_shelves_lot a_now_shelves_pieces a_now_shelves_mark a_now_shelves_byDistance, rI cI a_now_shelves_lot 48 c_now_shelves_lot, rI cI a_now_shelves_pieces 48 c_now_shelves_pieces, oX1 a_now_lots c_now_lots_count a_now_lots_product a_now_lots_last a_now_lots_cost a_now_lots_state a_now_lots_byLast, rI cI a_now_lots_product 24 c_now_lots_product, rI cI a_now_lots_cost 24 c_now_lots_cost, rI cI a_rest 24 c_rest] H → va_D A [oX7 a0 a_now a_past c_acts c_nextSlot a_plan a_picker a_rest a_packed, oX6 a_now c_now_today c_now_products c_now_itemCount a_now_items a_now_books a_now_terms a_now_shelves a_now_lots a_now_orders, oX5 a_now_shelves c_now_shelves_lanes c_now_shelves_positions c_now_shelves_room c_now_shelves_gap c_now_shelves_places c_now_shelves_picked a_now_shelves_lot a_now_shelves_pieces a_now_shelves_mark a_now_shelves_byDistance, rI cI a_now_shelves_lot 48 c_now_shelves_lot, rI cI a_now_shelves_pieces 48 c_now_shelves_pieces, oX1 a_now_lots c_now_lots_count a_now_lots_product a_now_lots_last a_now_lots_cost a_now_lots_state a_now_lots_byLast, rI cI a_now_lots_product 24 c_now_lots_product, rI cI a_now_lots_cost 24 c_now_lots_cost, rI cI a_rest 24 c_rest] → va_S A s.heap H locs → lv_has ls 5 [(0, .ref a0), (1, .int n1), (2, .long n2), (4, .int n4)] → WW H locs 0 0 (F0 m 24 ls []) := by
    intro n
    induction n with
    | zero =>
      intro n1 c_rest n2 n4 e2 hlp
      exact absurd hlp (by simp [loop])
    | succ n ih =>
      intro n1 c_rest n2 n4 e2 hlp K H locs ls hP hD hS hl
      obtain ⟨x9, hf, hlp⟩ := loop_s hlp
      have hf : f_X7_stockCost_L24 n1 c_now_products c_now_shelves_places c_now_shelves_lot c_now_shelves_pieces c_now_lots_count c_now_lots_product c_now_lots_cost c_rest n2 n4 = some x9 := hf
      unfold f_X7_stockCost_L24 at hf
      have hJ82 : ∀ (n2 : Int64) (n4 : Int32), f_X7_stockCost_L24_J82 n1 n2 n4 c_now_products c_now_shelves_places c_now_shelves_lot c_now_shelves_pieces c_now_lots_count c_now_lots_product c_now_lots_cost c_rest = some x9 → ∀ (H : Heap) (locs : List Loc) (ls : Array Slot), va_P D vwCl [oX7 a0 a_now a_past c_acts c_nextSlot a_plan a_picker a_rest a_packed, oX6 a_now c_now_today c_now_products c_now_itemCount a_now_items a_now_books a_now_terms a_now_shelves a_now_lots a_now_orders, oX5 a_now_shelves c_now_shelves_lanes c_now_shelves_positions c_now_shelves_room c_now_shelves_gap c_now_shelves_places c_now_shelves_picked a_now_shelves_lot a_now_shelves_pieces a_now_shelves_mark a_now_shelves_byDistance, rI cI a_now_shelves_lot 48 c_now_shelves_lot, rI cI a_now_shelves_pieces 48 c_now_shelves_pieces, oX1 a_now_lots c_now_lots_count a_now_lots_product a_now_lots_last a_now_lots_cost a_now_lots_state a_now_lots_byLast, rI cI a_now_lots_product 24 c_now_lots_product, rI cI a_now_lots_cost 24 c_now_lots_cost, rI cI a_rest 24 c_rest] H → va_D A [oX7 a0 a_now a_past c_acts c_nextSlot a_plan a_picker a_rest a_packed, oX6 a_now c_now_today c_now_products c_now_itemCount a_now_items a_now_books a_now_terms a_now_shelves a_now_lots a_now_orders, oX5 a_now_shelves c_now_shelves_lanes c_now_shelves_positions c_now_shelves_room c_now_shelves_gap c_now_shelves_places c_now_shelves_picked a_now_shelves_lot a_now_shelves_pieces a_now_shelves_mark a_now_shelves_byDistance, rI cI a_now_shelves_lot 48 c_now_shelves_lot, rI cI a_now_shelves_pieces 48 c_now_shelves_pieces, oX1 a_now_lots c_now_lots_count a_now_lots_product a_now_lots_last a_now_lots_cost a_now_lots_state a_now_lots_byLast, rI cI a_now_lots_product 24 c_now_lots_product, rI cI a_now_lots_cost 24 c_now_lots_cost, rI cI a_rest 24 c_rest] → va_S A s.heap H locs → lv_has ls 5 [(0, .ref a0), (1, .int n1), (2, .long n2), (4, .int n4)] → WW H locs 0 0 (F0 m 82 ls []) := by
        intro n2 n4 hf H locs ls hP hD hS hl
        unfold f_X7_stockCost_L24_J82 at hf
        refine (hWW _ _ _ _ _).mpr ?_
        refine lv_iinc (v := (n4 + 1)) (lv' := [(4, .int (n4 + 1)), (0, .ref a0), (1, .int n1), (2, .long n2)]) hx hb dX7_stockCost_82 hl (k := 3) rfl rfl (by decide) rfl (fun ls hl => ?_)
        refine lv_goto (tgt := 24) hx hb dX7_stockCost_85 (by decide) ?_
        obtain rfl := Option.some.inj hf
        exact (hWW _ _ _ _ _).mp (ih _ _ _ _ _ hlp K _ _ ls hP hD hS (lv_sub hl [1, 2, 3, 0] rfl))
      refine (hWW _ _ _ _ _).mpr ?_
      refine lv_iload hx hb dX7_stockCost_24 (lv_at hl 3 rfl) ?_
      refine lv_aload_n hx hb dX7_stockCost_26 rfl (lv_at hl 0 rfl) ?_
      refine va_get (D := D) (ci := 6) (v := .ref a_now) (C := RX7) (T := TX7) (N := 8) hx hb hts (fun w h => mb (iX7 w h)) hown hK hP 0 rfl rfl 0 (by decide) (hts _ (mb tb_270)) (fun _ h9 => h9) rfl dX7_stockCost_27 ?_
      refine va_get (D := D) (ci := 5) (v := .ref a_now_lots) (C := RX6) (T := TX6) (N := 9) hx hb hts (fun w h => mb (iX6 w h)) hown hK hP 1 rfl rfl 7 (by decide) (hts _ (mb tb_171)) (fun _ h9 => h9) rfl dX7_stockCost_30 ?_
      refine va_get (D := D) (ci := 0) (v := .int c_now_lots_count) (C := RX1) (T := TX1) (N := 6) hx hb hts (fun w h => mb (iX1 w h)) hown hK hP 5 rfl rfl 0 (by decide) (hts _ (mb tb_89)) (fun _ h9 => h9) rfl dX7_stockCost_33 ?_
      refine lv_icmp_ge (tgt := 88) hx hb dX7_stockCost_36 (by decide) (fun h7 => ?_) (fun h7 => ?_)
      · have hf := ipos h7 hf
        obtain rfl := Option.some.inj hf
        cases lpx_r hlp
        exact (hWW _ _ _ _ _).mp (K _ _ ls hP hD hS (lv_sub hl [2] rfl))
      · have hf := ineg h7 hf
        refine lv_aload_n hx hb dX7_stockCost_39 rfl (lv_at hl 0 rfl) ?_
        refine va_get (D := D) (ci := 6) (v := .ref a_now) (C := RX7) (T := TX7) (N := 8) hx hb hts (fun w h => mb (iX7 w h)) hown hK hP 0 rfl rfl 0 (by decide) (hts _ (mb tb_270)) (fun _ h9 => h9) rfl dX7_stockCost_40 ?_
        refine va_get (D := D) (ci := 5) (v := .ref a_now_lots) (C := RX6) (T := TX6) (N := 9) hx hb hts (fun w h => mb (iX6 w h)) hown hK hP 1 rfl rfl 7 (by decide) (hts _ (mb tb_171)) (fun _ h9 => h9) rfl dX7_stockCost_43 ?_
        refine va_get (D := D) (ci := 0) (v := .ref a_now_lots_product) (C := RX1) (T := TX1) (N := 6) hx hb hts (fun w h => mb (iX1 w h)) hown hK hP 5 rfl rfl 1 (by decide) (hts _ (mb tb_91)) (fun _ h9 => h9) rfl dX7_stockCost_46 ?_
        refine lv_iload hx hb dX7_stockCost_49 (lv_at hl 3 rfl) ?_
        obtain ⟨h8, hf⟩ := ob_d hf
        refine va_iald hx hb hK hP 6 0 rfl rfl h8 dX7_stockCost_51 ?_
        refine lv_iload_n hx hb dX7_stockCost_52 rfl (lv_at hl 1 rfl) ?_
        refine lv_icmp_ne (tgt := 82) hx hb dX7_stockCost_53 (by decide) (fun h9 => ?_) (fun h9 => ?_)
        · have hf := ineg h9 hf
          exact (hWW _ _ _ _ _).mp (hJ82 _ _ hf _ _ ls hP hD hS (lv_sub hl [0, 1, 2, 3] rfl))
        · have hf := ipos h9 hf
          refine lv_lload_n hx hb dX7_stockCost_56 rfl (lv_at hl 2 rfl) ?_
          refine lv_aload_n hx hb dX7_stockCost_57 rfl (lv_at hl 0 rfl) ?_
          refine va_get (D := D) (ci := 6) (v := .ref a_now) (C := RX7) (T := TX7) (N := 8) hx hb hts (fun w h => mb (iX7 w h)) hown hK hP 0 rfl rfl 0 (by decide) (hts _ (mb tb_270)) (fun _ h9 => h9) rfl dX7_stockCost_58 ?_
          refine va_get (D := D) (ci := 5) (v := .ref a_now_lots) (C := RX6) (T := TX6) (N := 9) hx hb hts (fun w h => mb (iX6 w h)) hown hK hP 1 rfl rfl 7 (by decide) (hts _ (mb tb_171)) (fun _ h9 => h9) rfl dX7_stockCost_61 ?_
          refine va_get (D := D) (ci := 0) (v := .ref a_now_lots_cost) (C := RX1) (T := TX1) (N := 6) hx hb hts (fun w h => mb (iX1 w h)) hown hK hP 5 rfl rfl 3 (by decide) (hts _ (mb tb_95)) (fun _ h9 => h9) rfl dX7_stockCost_64 ?_
          refine lv_iload hx hb dX7_stockCost_67 (lv_at hl 3 rfl) ?_
          obtain ⟨h10, hf⟩ := ob_d hf
          refine va_iald hx hb hK hP 7 0 rfl rfl h10 dX7_stockCost_69 ?_
          refine lv_i2l hx hb dX7_stockCost_70 rfl ?_
          refine lv_aload_n hx hb dX7_stockCost_71 rfl (lv_at hl 0 rfl) ?_
          refine va_get (D := D) (ci := 6) (v := .ref a_rest) (C := RX7) (T := TX7) (N := 8) hx hb hts (fun w h => mb (iX7 w h)) hown hK hP 0 rfl rfl 6 (by decide) (hts _ (mb tb_276)) (fun _ h9 => h9) rfl dX7_stockCost_72 ?_
          refine lv_iload hx hb dX7_stockCost_75 (lv_at hl 3 rfl) ?_
          obtain ⟨h11, hf⟩ := ob_d hf
          refine va_iald hx hb hK hP 8 0 rfl rfl h11 dX7_stockCost_77 ?_
          refine lv_i2l hx hb dX7_stockCost_78 rfl ?_
          refine lv_lmul hx hb dX7_stockCost_79 ?_
          refine lv_ladd hx hb dX7_stockCost_80 ?_
          refine lv_lstore_n (lv' := [(2, .long (n2 + (((c_now_lots_cost n4.toNatClampNeg).toInt64) * ((c_rest n4.toNatClampNeg).toInt64)))), (0, .ref a0), (1, .int n1), (4, .int n4)]) hx hb dX7_stockCost_81 rfl hl (by decide) rfl (fun ls hl => ?_)
          exact (hWW _ _ _ _ _).mp (hJ82 _ _ hf _ _ ls hP hD hS (lv_sub hl [1, 2, 0, 3] rfl))
  refine (hWW _ _ _ _ _).mpr ?_
  refine lv_aload_n hx hb dX7_stockCost_0 rfl (lv_at hl 0 rfl) ?_
  refine lv_iload_n hx hb dX7_stockCost_1 rfl (lv_at hl 1 rfl) ?_
  obtain ⟨r1, hc2, hf⟩ := ob1 hf
  refine rx_callv (r9 := r1) (vx_runV (As := [.int v1]) (rest := []) ⟨hx, hb, hml, hown, hts⟩ (k_X7_needProduct l hl0 D cI cJ cZ cS B0 H a0 a_now a_past a_plan a_picker a_rest a_packed a_now_items a_now_books a_now_terms a_now_shelves a_now_lots a_now_orders c_acts c_nextSlot c_now_today c_now_products c_now_itemCount v1 r1 hc2) (cwV 1 hts (gV tb_647 tb_649 ts_12 tb_1 tb_650) rfl rfl rfl (by decide +kernel) ⟨Nat.le_of_ble_eq_true rfl, Nat.le_of_ble_eq_true rfl⟩) ⟨rp_blind, va_recv hK hP (ci := 6) (q0 := 0) rfl rfl, rp_pre (hP.sub [0, 1] rfl) hK (hBn _ _ hS) (hEn _ _ hS)⟩ rfl rfl hl.1 rfl (lv_room (Nat.le_of_ble_eq_true rfl)) dX7_stockCost_2 ⟨Nat.le_of_ble_eq_true rfl, Nat.le_of_ble_eq_true rfl⟩) hS hA (fun E3 ce q9 H1 locs1 hE9 hz9 hk9 hS hq9 hv9 hcl9 => ?_) (fun hr9 => ?_)
  · subst hE9
    have hf := mx_e hf
    cases hf
    exact vx_out (fun x hx => (hno x hx).elim) hlocks hq9 hv9 hcl9 (fun t ht hal => ⟨(), trivial, ⟨rfl, (by show va_P D vwCl _ t.heap; rw [ht]; exact va_Pk hP hk9)⟩, hS.F ht⟩) hS.2.2 (Nat.le_of_ble_eq_true rfl) (Nat.le_of_ble_eq_true rfl)
  · subst hr9
    have hf := mx_o hf
    refine lv_lconst (v := 0) hx hb dX7_stockCost_5 (by decide) ?_
    refine lv_lstore_n (lv' := [(2, .long 0), (0, .ref a0), (1, .int v1)]) hx hb dX7_stockCost_6 rfl hl (by decide) rfl (fun ls hl => ?_)
    refine lv_aload_n hx hb dX7_stockCost_7 rfl (lv_at hl 1 rfl) ?_
    refine va_get (D := D) (ci := 6) (v := .ref a_now) (C := RX7) (T := TX7) (N := 8) hx hb hts (fun w h => mb (iX7 w h)) hown hK hP 0 rfl rfl 0 (by decide) (hts _ (mb tb_270)) (fun _ h9 => h9) rfl dX7_stockCost_8 ?_
    refine va_get (D := D) (ci := 5) (v := .ref a_now_shelves) (C := RX6) (T := TX6) (N := 9) hx hb hts (fun w h => mb (iX6 w h)) hown hK hP 1 rfl rfl 6 (by decide) (hts _ (mb tb_169)) (fun _ h9 => h9) rfl dX7_stockCost_11 ?_
    refine lv_aload_n hx hb dX7_stockCost_14 rfl (lv_at hl 1 rfl) ?_
    refine va_get (D := D) (ci := 6) (v := .ref a_rest) (C := RX7) (T := TX7) (N := 8) hx hb hts (fun w h => mb (iX7 w h)) hown hK hP 0 rfl rfl 6 (by decide) (hts _ (mb tb_276)) (fun _ h9 => h9) rfl dX7_stockCost_15 ?_
    obtain ⟨o6, hc5, hf⟩ := ob1 hf
    refine rw_callv (va_runV (As := [.ref a_rest]) (rest := []) ⟨hx, hb, hml, hown, hts⟩ (k_X5_countLots l hl0 D cI cJ cZ cS B0 H.size a_now_shelves a_now_shelves_lot a_now_shelves_pieces a_now_shelves_mark a_now_shelves_byDistance a_rest c_now_shelves_lanes c_now_shelves_positions c_now_shelves_room c_now_shelves_gap c_now_shelves_places c_now_shelves_picked c_now_shelves_lot c_now_shelves_pieces c_rest o6 hc5) (cwV 1 hts (gV tb_342 tb_343 tb_344 tb_3 tb_345) rfl rfl rfl (by decide +kernel) ⟨Nat.le_of_ble_eq_true rfl, Nat.le_of_ble_eq_true rfl⟩) ⟨wp_blind, va_recv hK hP (ci := 4) (q0 := 2) rfl rfl, wp_pre (hP.sub [2, 3, 4, 8] rfl) hK (va_D.sub (hD.weaken (fun _ _ _ h9 => hAB _ h9)) [2, 3, 4, 8] rfl rfl) (hBn _ _ hS) (hEn _ _ hS)⟩ rfl rfl hl.1 rfl (lv_room (Nat.le_of_ble_eq_true rfl)) dX7_stockCost_18 ⟨Nat.le_of_ble_eq_true rfl, Nat.le_of_ble_eq_true rfl⟩) hP hD hS hA [oX7 a0 a_now a_past c_acts c_nextSlot a_plan a_picker a_rest a_packed, oX6 a_now c_now_today c_now_products c_now_itemCount a_now_items a_now_books a_now_terms a_now_shelves a_now_lots a_now_orders, oX5 a_now_shelves c_now_shelves_lanes c_now_shelves_positions c_now_shelves_room c_now_shelves_gap c_now_shelves_places c_now_shelves_picked a_now_shelves_lot a_now_shelves_pieces a_now_shelves_mark a_now_shelves_byDistance, rI cI a_now_shelves_lot 48 c_now_shelves_lot, rI cI a_now_shelves_pieces 48 c_now_shelves_pieces, oX1 a_now_lots c_now_lots_count a_now_lots_product a_now_lots_last a_now_lots_cost a_now_lots_state a_now_lots_byLast, rI cI a_now_lots_product 24 c_now_lots_product, rI cI a_now_lots_cost 24 c_now_lots_cost, rI cI a_rest 24 o6] 9 [2, 3, 4, 8] [0, 1, 5, 6, 7] rfl rfl rfl rfl (by decide +kernel) rfl (fun H locs hP hD hS => ?_)
    refine lv_iconst (v := 0) hx hb dX7_stockCost_21 (by decide) ?_
    refine lv_istore (lv' := [(4, .int 0), (2, .long 0), (0, .ref a0), (1, .int v1)]) hx hb dX7_stockCost_22 hl (by decide) rfl (fun ls hl => ?_)
    obtain ⟨m13, hc12, hf⟩ := ob1 hf
    refine (hWW _ _ _ _ _).mp (hL24 fu _ _ _ _ _ hc12 (fun H locs ls hP hD hS hl => ?_) _ _ ls hP hD hS (lv_sub hl [2, 3, 1, 0] rfl))
    · refine (hWW _ _ _ _ _).mpr ?_
      refine lv_lload_n hx hb dX7_stockCost_88 rfl (lv_at hl 0 rfl) ?_
      cases hf
      refine vx_ret ?_
      refine W.widen (k := 1) (n := 6) (Nat.le_of_ble_eq_true rfl) (Nat.le_of_ble_eq_true rfl) ?_
      exact W.lret hx hb hr (fun t ht hW => ⟨⟨_, (), rfl, rfl, (by show va_P D vwCl _ t.heap; rw [ht]; exact hP)⟩, hS.F ht⟩) hS.2.2 dX7_stockCost_89
def f_X7_customersOf_L9_J55 (n1 : Int32) (n2 : Int32) (n3 : Int32) (c_now_lots_count : Int32) (c_now_orders_count : Int32) (c_now_orders_customer : Nat → Int32) (c_now_orders_had : Nat → Int32) : Option ((Int32 × Int32) ⊕ Int32) :=
  some (.inl (n2, n3 + 1))
def f_X7_customersOf_L9 (n1 : Int32) (c_now_lots_count : Int32) (c_now_orders_count : Int32) (c_now_orders_customer : Nat → Int32) (c_now_orders_had : Nat → Int32) (n2 : Int32) (n3 : Int32) : Option ((Int32 × Int32) ⊕ Int32) :=
  (if c_now_orders_count ≤ n3 then some (.inr n2)
  else bnd1 (f_X2_piecesOf n3 n1 c_now_orders_count c_now_orders_had) (fun r5 =>
  ((if r5 ≤ 0 then f_X7_customersOf_L9_J55 n1 n2 n3 c_now_lots_count c_now_orders_count c_now_orders_customer c_now_orders_had
  else gd n3 40 (f_X7_customersOf_L9_J55 n1 (n2 ||| (1 <<< ((c_now_orders_customer n3.toNatClampNeg) &&& 31))) n3 c_now_lots_count c_now_orders_count c_now_orders_customer c_now_orders_had)))))
def f_X7_customersOf (v1 : Int32) (c_now_lots_count : Int32) (c_now_orders_count : Int32) (c_now_orders_customer : Nat → Int32) (c_now_orders_had : Nat → Int32) : Option ((Except String Int32)) :=
  bnd1 (f_X7_needLot v1 c_now_lots_count) (fun r1 => mx r1 (fun E3 => some (.error E3)) (fun _ =>
  ((bnd1 (loop (fun z => f_X7_customersOf_L9 v1 c_now_lots_count c_now_orders_count c_now_orders_customer c_now_orders_had z.1 z.2) fu (0, 0)) fun m10 =>
  some (.ok m10)))))
set_option maxHeartbeats 4000000 in
set_option maxRecDepth 100000 in
theorem k_X7_customersOf (l : Launch) (hl0 : l.stackTraces = false) (D : va_G) (cI cJ cZ cS : ClassId) (B0 : Nat) (H0 : Heap) (a0 a_now a_past a_plan a_picker a_rest a_packed a_now_items a_now_books a_now_terms a_now_shelves a_now_lots a_now_orders a_now_lots_product a_now_lots_last a_now_lots_cost a_now_lots_state a_now_lots_byLast a_now_orders_customer a_now_orders_product a_now_orders_open a_now_orders_due a_now_orders_life a_now_orders_byDue a_now_orders_had a_now_orders_stamps : Nat) (c_acts : Int32) (c_nextSlot : Int32) (c_now_today : Int32) (c_now_products : Int32) (c_now_itemCount : Int32) (c_now_lots_count : Int32) (c_now_orders_count : Int32) (c_now_orders_gifts : Int32) (c_now_orders_customer : Nat → Int32) (c_now_orders_had : Nat → Int32) (v1 : Int32) (r9 : Except String Int32)  (hf : f_X7_customersOf v1 c_now_lots_count c_now_orders_count c_now_orders_customer c_now_orders_had = some r9) : vx_Met l yX7_customersOf (wz yX7_customersOf cX7_customersOf 4 (some .int)) ({ frames := 7, cells := 1, slots := 6, locals := 111 }) (va_Pc [.ref a0, .int v1] (rp D cI cJ cZ cS B0 [oX7 a0 a_now a_past c_acts c_nextSlot a_plan a_picker a_rest a_packed, oX6 a_now c_now_today c_now_products c_now_itemCount a_now_items a_now_books a_now_terms a_now_shelves a_now_lots a_now_orders, oX1 a_now_lots c_now_lots_count a_now_lots_product a_now_lots_last a_now_lots_cost a_now_lots_state a_now_lots_byLast, oX2 a_now_orders c_now_orders_count c_now_orders_gifts a_now_orders_customer a_now_orders_product a_now_orders_open a_now_orders_due a_now_orders_life a_now_orders_byDue a_now_orders_had a_now_orders_stamps, rI cI a_now_orders_customer 40 c_now_orders_customer, rI cI a_now_orders_had 960 c_now_orders_had] H0)) (va_Qi (fun (r2 : Int32) (_ : Unit) => r9 = .ok r2) (fun _ t => t.heap = H0) (fun q => H0.size ≤ q)) (vx_X (fun (_ : Unit) => True) (fun E _ _ => r9 = .error E) (fun q => H0.size ≤ q)) 1 6 (fun q => H0.size ≤ q) := by
  refine vx_ofW (cc := cX7_customersOf) (maxL := 4) (ret := (some .int)) (by decide +kernel) rfl ?_
  intro p e s m args below meth c s₁ B hml hno hv
  obtain ⟨rfl, hH, hP, hK, hB0, hE⟩ := hv
  subst hH
  have hx := B.exec
  have hb := B.bytes
  have hr := B.returns
  have hts := atoms_spec (ws := (wz yX7_customersOf cX7_customersOf 4 (some .int))) B.pre
  have hown : s.vm.findClass RX7 = some m.cls := findClass_of_methodNamed B.named
  have hlocks := B.notSynchronized
  have hAB : ∀ q : Nat, s.heap.size ≤ q → B0 ≤ q := fun q h => Nat.le_trans hB0 h
  have hA : ∀ q : Nat, s.heap.size ≤ q → s.heap.size ≤ q := fun _ h => h
  have hS : va_S (fun q => s.heap.size ≤ q) s.heap s.heap [] := va_S.rf
  have hBn := fun (H : Heap) (locs : List Loc) (h : va_S (fun q => s.heap.size ≤ q) s.heap H locs) => Nat.le_trans hB0 h.1
  have hEn := fun (H : Heap) (locs : List Loc) (h : va_S (fun q => s.heap.size ≤ q) s.heap H locs) => gE_now hE h hAB
  have hl := lv_entry ([.ref a0, .int v1]) (n := 4) (Nat.le_of_ble_eq_true rfl)
  rw [lg_entry_eq]
  generalize (lg_sl ([.ref a0, .int v1]) ++ List.replicate (4 - (lg_sl ([.ref a0, .int v1])).length) Slot.unset).toArray = ls at hl ⊢
  have hl : lv_has ls 4 [(0, .ref a0), (1, .int v1)] := hl
  obtain ⟨H, hHe⟩ : ∃ H : Heap, H = s.heap := ⟨_, rfl⟩
  have hP : va_P D vwCl [oX7 a0 a_now a_past c_acts c_nextSlot a_plan a_picker a_rest a_packed, oX6 a_now c_now_today c_now_products c_now_itemCount a_now_items a_now_books a_now_terms a_now_shelves a_now_lots a_now_orders, oX1 a_now_lots c_now_lots_count a_now_lots_product a_now_lots_last a_now_lots_cost a_now_lots_state a_now_lots_byLast, oX2 a_now_orders c_now_orders_count c_now_orders_gifts a_now_orders_customer a_now_orders_product a_now_orders_open a_now_orders_due a_now_orders_life a_now_orders_byDue a_now_orders_had a_now_orders_stamps, rI cI a_now_orders_customer 40 c_now_orders_customer, rI cI a_now_orders_had 960 c_now_orders_had] H := by rw [hHe]; exact hP
  have hS : va_S (fun q => s.heap.size ≤ q) s.heap H [] := by rw [hHe]; exact hS
  refine W_heq hHe ?_
  unfold f_X7_customersOf at hf
  refine gen_go (fun WW hWW => ?_)
  have hL9 : ∀ (n : Nat) (n1 : Int32) (n2 : Int32) (n3 : Int32) (e2 : Int32), loop (fun z => f_X7_customersOf_L9 n1 c_now_lots_count c_now_orders_count c_now_orders_customer c_now_orders_had z.1 z.2) n (n2, n3) = some e2 → (∀ (ls : Array Slot), lv_has ls 4 [(2, .int e2)] → WW (F0 m 61 ls [])) → ∀ (ls : Array Slot), lv_has ls 4 [(0, .ref a0), (1, .int n1), (2, .int n2), (3, .int n3)] → WW (F0 m 9 ls []) := by
    intro n
    induction n with
    | zero =>
      intro n1 n2 n3 e2 hlp
      exact absurd hlp (by simp [loop])
    | succ n ih =>
      intro n1 n2 n3 e2 hlp K ls hl
      obtain ⟨x9, hf, hlp⟩ := loop_s hlp
      have hf : f_X7_customersOf_L9 n1 c_now_lots_count c_now_orders_count c_now_orders_customer c_now_orders_had n2 n3 = some x9 := hf
      unfold f_X7_customersOf_L9 at hf
      have hJ55 : ∀ (n2 : Int32) (n3 : Int32), f_X7_customersOf_L9_J55 n1 n2 n3 c_now_lots_count c_now_orders_count c_now_orders_customer c_now_orders_had = some x9 → ∀ (ls : Array Slot), lv_has ls 4 [(0, .ref a0), (1, .int n1), (2, .int n2), (3, .int n3)] → WW (F0 m 55 ls []) := by
        intro n2 n3 hf ls hl
        unfold f_X7_customersOf_L9_J55 at hf
        refine (hWW _).mpr ?_
        refine lv_iinc (v := (n3 + 1)) (lv' := [(3, .int (n3 + 1)), (0, .ref a0), (1, .int n1), (2, .int n2)]) hx hb dX7_customersOf_55 hl (k := 3) rfl rfl (by decide) rfl (fun ls hl => ?_)
        refine lv_goto (tgt := 9) hx hb dX7_customersOf_58 (by decide) ?_
        obtain rfl := Option.some.inj hf
        exact (hWW _).mp (ih _ _ _ _ hlp K ls (lv_sub hl [1, 2, 3, 0] rfl))
      refine (hWW _).mpr ?_
      refine lv_iload_n hx hb dX7_customersOf_9 rfl (lv_at hl 3 rfl) ?_
      refine lv_aload_n hx hb dX7_customersOf_10 rfl (lv_at hl 0 rfl) ?_
      refine va_get (D := D) (ci := 6) (v := .ref a_now) (C := RX7) (T := TX7) (N := 8) hx hb hts (fun w h => mb (iX7 w h)) hown hK hP 0 rfl rfl 0 (by decide) (hts _ (mb tb_270)) (fun _ h9 => h9) rfl dX7_customersOf_11 ?_
      refine va_get (D := D) (ci := 5) (v := .ref a_now_orders) (C := RX6) (T := TX6) (N := 9) hx hb hts (fun w h => mb (iX6 w h)) hown hK hP 1 rfl rfl 8 (by decide) (hts _ (mb tb_173)) (fun _ h9 => h9) rfl dX7_customersOf_14 ?_
      refine va_get (D := D) (ci := 1) (v := .int c_now_orders_count) (C := RX2) (T := TX2) (N := 10) hx hb hts (fun w h => mb (iX2 w h)) hown hK hP 3 rfl rfl 0 (by decide) (hts _ (mb tb_120)) (fun _ h9 => h9) rfl dX7_customersOf_17 ?_
      refine lv_icmp_ge (tgt := 61) hx hb dX7_customersOf_20 (by decide) (fun h4 => ?_) (fun h4 => ?_)
      · have hf := ipos h4 hf
        obtain rfl := Option.some.inj hf
        cases lpx_r hlp
        exact (hWW _).mp (K ls (lv_sub hl [2] rfl))
      · have hf := ineg h4 hf
        refine lv_aload_n hx hb dX7_customersOf_23 rfl (lv_at hl 0 rfl) ?_
        refine va_get (D := D) (ci := 6) (v := .ref a_now) (C := RX7) (T := TX7) (N := 8) hx hb hts (fun w h => mb (iX7 w h)) hown hK hP 0 rfl rfl 0 (by decide) (hts _ (mb tb_270)) (fun _ h9 => h9) rfl dX7_customersOf_24 ?_
        refine va_get (D := D) (ci := 5) (v := .ref a_now_orders) (C := RX6) (T := TX6) (N := 9) hx hb hts (fun w h => mb (iX6 w h)) hown hK hP 1 rfl rfl 8 (by decide) (hts _ (mb tb_173)) (fun _ h9 => h9) rfl dX7_customersOf_27 ?_
        refine lv_iload_n hx hb dX7_customersOf_30 rfl (lv_at hl 3 rfl) ?_
        refine lv_iload_n hx hb dX7_customersOf_31 rfl (lv_at hl 1 rfl) ?_
        obtain ⟨r5, hc6, hf⟩ := ob1 hf
        refine ro_calli (r := r5) (va_runV (As := [.int n3, .int n1]) (rest := []) ⟨hx, hb, hml, hown, hts⟩ (k_X2_piecesOf l hl0 D cI cJ cZ cS B0 H a_now_orders a_now_orders_customer a_now_orders_product a_now_orders_open a_now_orders_due a_now_orders_life a_now_orders_byDue a_now_orders_had a_now_orders_stamps c_now_orders_count c_now_orders_gifts c_now_orders_had n3 n1 r5 hc6) (cwV 2 hts (gV tb_747 tb_414 tb_415 tb_5 tb_416) rfl rfl rfl (by decide +kernel) ⟨Nat.le_of_ble_eq_true rfl, Nat.le_of_ble_eq_true rfl⟩) ⟨rp_blind, va_recv hK hP (ci := 1) (q0 := 3) rfl rfl, rp_pre (hP.sub [3, 5] rfl) hK (hBn _ _ hS) (hEn _ _ hS)⟩ rfl rfl hl.1 rfl (lv_room (Nat.le_of_ble_eq_true rfl)) dX7_customersOf_32 ⟨Nat.le_of_ble_eq_true rfl, Nat.le_of_ble_eq_true rfl⟩) ?_
        refine lv_if_le (tgt := 55) hx hb dX7_customersOf_35 (by decide) (fun h7 => ?_) (fun h7 => ?_)
        · have hf := ipos h7 hf
          exact (hWW _).mp (hJ55 _ _ hf ls (lv_sub hl [0, 1, 2, 3] rfl))
        · have hf := ineg h7 hf
          refine lv_iload_n hx hb dX7_customersOf_38 rfl (lv_at hl 2 rfl) ?_
          refine lv_iconst (v := 1) hx hb dX7_customersOf_39 (by decide) ?_
          refine lv_aload_n hx hb dX7_customersOf_40 rfl (lv_at hl 0 rfl) ?_
          refine va_get (D := D) (ci := 6) (v := .ref a_now) (C := RX7) (T := TX7) (N := 8) hx hb hts (fun w h => mb (iX7 w h)) hown hK hP 0 rfl rfl 0 (by decide) (hts _ (mb tb_270)) (fun _ h9 => h9) rfl dX7_customersOf_41 ?_
          refine va_get (D := D) (ci := 5) (v := .ref a_now_orders) (C := RX6) (T := TX6) (N := 9) hx hb hts (fun w h => mb (iX6 w h)) hown hK hP 1 rfl rfl 8 (by decide) (hts _ (mb tb_173)) (fun _ h9 => h9) rfl dX7_customersOf_44 ?_
          refine va_get (D := D) (ci := 1) (v := .ref a_now_orders_customer) (C := RX2) (T := TX2) (N := 10) hx hb hts (fun w h => mb (iX2 w h)) hown hK hP 3 rfl rfl 2 (by decide) (hts _ (mb tb_123)) (fun _ h9 => h9) rfl dX7_customersOf_47 ?_
          refine lv_iload_n hx hb dX7_customersOf_50 rfl (lv_at hl 3 rfl) ?_
          obtain ⟨h8, hf⟩ := ob_d hf
          refine va_iald hx hb hK hP 4 0 rfl rfl h8 dX7_customersOf_51 ?_
          refine lv_ishl hx hb dX7_customersOf_52 ?_
          refine lv_ior hx hb dX7_customersOf_53 ?_
          refine lv_istore_n (lv' := [(2, .int (n2 ||| (1 <<< ((c_now_orders_customer n3.toNatClampNeg) &&& 31)))), (0, .ref a0), (1, .int n1), (3, .int n3)]) hx hb dX7_customersOf_54 rfl hl (by decide) rfl (fun ls hl => ?_)
          exact (hWW _).mp (hJ55 _ _ hf ls (lv_sub hl [1, 2, 0, 3] rfl))
  refine (hWW _).mpr ?_
  refine lv_aload_n hx hb dX7_customersOf_0 rfl (lv_at hl 0 rfl) ?_
  refine lv_iload_n hx hb dX7_customersOf_1 rfl (lv_at hl 1 rfl) ?_
  obtain ⟨r1, hc2, hf⟩ := ob1 hf
  refine rx_callv (r9 := r1) (vx_runV (As := [.int v1]) (rest := []) ⟨hx, hb, hml, hown, hts⟩ (k_X7_needLot l hl0 D cI cJ cZ cS B0 H a0 a_now a_past a_plan a_picker a_rest a_packed a_now_items a_now_books a_now_terms a_now_shelves a_now_lots a_now_orders a_now_lots_product a_now_lots_last a_now_lots_cost a_now_lots_state a_now_lots_byLast c_acts c_nextSlot c_now_today c_now_products c_now_itemCount c_now_lots_count v1 r1 hc2) (cwV 1 hts (gV tb_698 tb_700 ts_14 tb_1 tb_701) rfl rfl rfl (by decide +kernel) ⟨Nat.le_of_ble_eq_true rfl, Nat.le_of_ble_eq_true rfl⟩) ⟨rp_blind, va_recv hK hP (ci := 6) (q0 := 0) rfl rfl, rp_pre (hP.sub [0, 1, 2] rfl) hK (hBn _ _ hS) (hEn _ _ hS)⟩ rfl rfl hl.1 rfl (lv_room (Nat.le_of_ble_eq_true rfl)) dX7_customersOf_2 ⟨Nat.le_of_ble_eq_true rfl, Nat.le_of_ble_eq_true rfl⟩) hS hA (fun E3 ce q9 H1 locs1 hE9 hz9 hk9 hS hq9 hv9 hcl9 => ?_) (fun hr9 => ?_)
  · subst hE9
    have hf := mx_e hf
    cases hf
    exact vx_out (fun x hx => (hno x hx).elim) hlocks hq9 hv9 hcl9 (fun t ht hal => ⟨(), trivial, rfl, hS.F ht⟩) hS.2.2 (Nat.le_of_ble_eq_true rfl) (Nat.le_of_ble_eq_true rfl)
  · subst hr9
    have hf := mx_o hf
    refine lv_iconst (v := 0) hx hb dX7_customersOf_5 (by decide) ?_
    refine lv_istore_n (lv' := [(2, .int 0), (0, .ref a0), (1, .int v1)]) hx hb dX7_customersOf_6 rfl hl (by decide) rfl (fun ls hl => ?_)
    refine lv_iconst (v := 0) hx hb dX7_customersOf_7 (by decide) ?_
    refine lv_istore_n (lv' := [(3, .int 0), (2, .int 0), (0, .ref a0), (1, .int v1)]) hx hb dX7_customersOf_8 rfl hl (by decide) rfl (fun ls hl => ?_)
    obtain ⟨m10, hc9, hf⟩ := ob1 hf
    refine (hWW _).mp (hL9 fu _ _ _ _ hc9 (fun ls hl => ?_) ls (lv_sub hl [2, 3, 1, 0] rfl))
    · refine (hWW _).mpr ?_
      refine lv_iload_n hx hb dX7_customersOf_61 rfl (lv_at hl 0 rfl) ?_
      cases hf
      refine vx_ret ?_
      refine W.widen (k := 1) (n := 6) (Nat.le_of_ble_eq_true rfl) (Nat.le_of_ble_eq_true rfl) ?_
      exact W.iret hx hb hr (fun t ht hW => ⟨⟨_, (), rfl, rfl, (ht.trans hHe)⟩, hS.F ht⟩) hS.2.2 dX7_customersOf_62
def f_X7_placeCount (c_now_shelves_places : Int32) : Option (Int32) :=
  some c_now_shelves_places
set_option maxHeartbeats 4000000 in
set_option maxRecDepth 100000 in
theorem k_X7_placeCount (l : Launch) (hl0 : l.stackTraces = false) (D : va_G) (cI cJ cZ cS : ClassId) (B0 : Nat) (H0 : Heap) (a0 a_now a_past a_plan a_picker a_rest a_packed a_now_items a_now_books a_now_terms a_now_shelves a_now_lots a_now_orders a_now_shelves_lot a_now_shelves_pieces a_now_shelves_mark a_now_shelves_byDistance : Nat) (c_acts : Int32) (c_nextSlot : Int32) (c_now_today : Int32) (c_now_products : Int32) (c_now_itemCount : Int32) (c_now_shelves_lanes : Int32) (c_now_shelves_positions : Int32) (c_now_shelves_room : Int32) (c_now_shelves_gap : Int32) (c_now_shelves_places : Int32) (c_now_shelves_picked : Int64) (r9 : Int32)  (hf : f_X7_placeCount c_now_shelves_places = some r9) : Met l yX7_placeCount (wz yX7_placeCount cX7_placeCount 1 (some .int)) ({ frames := 0, cells := 0, slots := 0, locals := 0 }) (va_Pc [.ref a0] (rp D cI cJ cZ cS B0 [oX7 a0 a_now a_past c_acts c_nextSlot a_plan a_picker a_rest a_packed, oX6 a_now c_now_today c_now_products c_now_itemCount a_now_items a_now_books a_now_terms a_now_shelves a_now_lots a_now_orders, oX5 a_now_shelves c_now_shelves_lanes c_now_shelves_positions c_now_shelves_room c_now_shelves_gap c_now_shelves_places c_now_shelves_picked a_now_shelves_lot a_now_shelves_pieces a_now_shelves_mark a_now_shelves_byDistance] H0)) (va_Qi (fun (r2 : Int32) (_ : Unit) => r2 = r9) (fun _ t => t.heap = H0) (fun q => H0.size ≤ q)) 0 0 (fun q => H0.size ≤ q) := by
  refine Met.ofW (cc := cX7_placeCount) (maxL := 1) (ret := (some .int)) (by decide) rfl ?_
  intro p e s m args below meth c s₁ B hml hv
  obtain ⟨rfl, hH, hP, hK, hB0, hE⟩ := hv
  subst hH
  have hx := B.exec
  have hb := B.bytes
  have hr := B.returns
  have hts := atoms_spec (ws := (wz yX7_placeCount cX7_placeCount 1 (some .int))) B.pre
  have hown : s.vm.findClass RX7 = some m.cls := findClass_of_methodNamed B.named
  have hlocks := B.notSynchronized
  have hAB : ∀ q : Nat, s.heap.size ≤ q → B0 ≤ q := fun q h => Nat.le_trans hB0 h
  have hA : ∀ q : Nat, s.heap.size ≤ q → s.heap.size ≤ q := fun _ h => h
  have hS : va_S (fun q => s.heap.size ≤ q) s.heap s.heap [] := va_S.rf
  have hBn := fun (H : Heap) (locs : List Loc) (h : va_S (fun q => s.heap.size ≤ q) s.heap H locs) => Nat.le_trans hB0 h.1
  have hEn := fun (H : Heap) (locs : List Loc) (h : va_S (fun q => s.heap.size ≤ q) s.heap H locs) => gE_now hE h hAB
  have hl := lv_entry ([.ref a0]) (n := 1) (Nat.le_of_ble_eq_true rfl)
  rw [lg_entry_eq]
  generalize (lg_sl ([.ref a0]) ++ List.replicate (1 - (lg_sl ([.ref a0])).length) Slot.unset).toArray = ls at hl ⊢
  have hl : lv_has ls 1 [(0, .ref a0)] := hl
  obtain ⟨H, hHe⟩ : ∃ H : Heap, H = s.heap := ⟨_, rfl⟩
  have hP : va_P D vwCl [oX7 a0 a_now a_past c_acts c_nextSlot a_plan a_picker a_rest a_packed, oX6 a_now c_now_today c_now_products c_now_itemCount a_now_items a_now_books a_now_terms a_now_shelves a_now_lots a_now_orders, oX5 a_now_shelves c_now_shelves_lanes c_now_shelves_positions c_now_shelves_room c_now_shelves_gap c_now_shelves_places c_now_shelves_picked a_now_shelves_lot a_now_shelves_pieces a_now_shelves_mark a_now_shelves_byDistance] H := by rw [hHe]; exact hP
  have hS : va_S (fun q => s.heap.size ≤ q) s.heap H [] := by rw [hHe]; exact hS
  refine W_heq hHe ?_
  unfold f_X7_placeCount at hf
  refine lv_aload_n hx hb dX7_placeCount_0 rfl (lv_at hl 0 rfl) ?_
  refine va_get (D := D) (ci := 6) (v := .ref a_now) (C := RX7) (T := TX7) (N := 8) hx hb hts (fun w h => mb (iX7 w h)) hown hK hP 0 rfl rfl 0 (by decide) (hts _ (mb tb_270)) (fun _ h9 => h9) rfl dX7_placeCount_1 ?_
  refine va_get (D := D) (ci := 5) (v := .ref a_now_shelves) (C := RX6) (T := TX6) (N := 9) hx hb hts (fun w h => mb (iX6 w h)) hown hK hP 1 rfl rfl 6 (by decide) (hts _ (mb tb_169)) (fun _ h9 => h9) rfl dX7_placeCount_4 ?_
  refine va_get (D := D) (ci := 4) (v := .int c_now_shelves_places) (C := RX5) (T := TX5) (N := 10) hx hb hts (fun w h => mb (iX5 w h)) hown hK hP 2 rfl rfl 4 (by decide) (hts _ (mb tb_49)) (fun _ h9 => h9) rfl dX7_placeCount_7 ?_
  cases hf
  exact W.iret hx hb hr (fun t ht hW => ⟨⟨_, (), rfl, rfl, (ht.trans hHe)⟩, hS.F ht⟩) hS.2.2 dX7_placeCount_10
def f_X7_needPlace (v1 : Int32) (c_now_shelves_places : Int32) : Option ((Except String Unit)) :=
  bnd1 (f_X5_exists v1 c_now_shelves_places) (fun r1 =>
  ((if r1 = 0 then some (.error "java/lang/IndexOutOfBoundsException")
  else some (.ok ()))))
set_option maxHeartbeats 4000000 in
set_option maxRecDepth 100000 in
theorem k_X7_needPlace (l : Launch) (hl0 : l.stackTraces = false) (D : va_G) (cI cJ cZ cS : ClassId) (B0 : Nat) (H0 : Heap) (a0 a_now a_past a_plan a_picker a_rest a_packed a_now_items a_now_books a_now_terms a_now_shelves a_now_lots a_now_orders a_now_shelves_lot a_now_shelves_pieces a_now_shelves_mark a_now_shelves_byDistance : Nat) (c_acts : Int32) (c_nextSlot : Int32) (c_now_today : Int32) (c_now_products : Int32) (c_now_itemCount : Int32) (c_now_shelves_lanes : Int32) (c_now_shelves_positions : Int32) (c_now_shelves_room : Int32) (c_now_shelves_gap : Int32) (c_now_shelves_places : Int32) (c_now_shelves_picked : Int64) (v1 : Int32) (r9 : Except String Unit)  (hf : f_X7_needPlace v1 c_now_shelves_places = some r9) : vx_Met l yX7_needPlace (wz yX7_needPlace cX7_needPlace 2 none) ({ frames := 6, cells := 1, slots := 6, locals := 90 }) (va_Pc [.ref a0, .int v1] (rp D cI cJ cZ cS B0 [oX7 a0 a_now a_past c_acts c_nextSlot a_plan a_picker a_rest a_packed, oX6 a_now c_now_today c_now_products c_now_itemCount a_now_items a_now_books a_now_terms a_now_shelves a_now_lots a_now_orders, oX5 a_now_shelves c_now_shelves_lanes c_now_shelves_positions c_now_shelves_room c_now_shelves_gap c_now_shelves_places c_now_shelves_picked a_now_shelves_lot a_now_shelves_pieces a_now_shelves_mark a_now_shelves_byDistance] H0)) (va_Qv (fun (_ : Unit) => r9 = .ok ()) (fun _ t => t.heap = H0) (fun q => H0.size ≤ q)) (vx_X (fun (_ : Unit) => True) (fun E _ _ => r9 = .error E) (fun q => H0.size ≤ q)) 1 6 (fun q => H0.size ≤ q) := by
  refine vx_ofW (cc := cX7_needPlace) (maxL := 2) (ret := none) (by decide +kernel) rfl ?_
  intro p e s m args below meth c s₁ B hml hno hv
  obtain ⟨rfl, hH, hP, hK, hB0, hE⟩ := hv
  subst hH
  have hx := B.exec
  have hb := B.bytes
  have hr := B.returns
  have hts := atoms_spec (ws := (wz yX7_needPlace cX7_needPlace 2 none)) B.pre
  have hown : s.vm.findClass RX7 = some m.cls := findClass_of_methodNamed B.named
  have hlocks := B.notSynchronized
  have hAB : ∀ q : Nat, s.heap.size ≤ q → B0 ≤ q := fun q h => Nat.le_trans hB0 h
  have hA : ∀ q : Nat, s.heap.size ≤ q → s.heap.size ≤ q := fun _ h => h
  have hS : va_S (fun q => s.heap.size ≤ q) s.heap s.heap [] := va_S.rf
  have hBn := fun (H : Heap) (locs : List Loc) (h : va_S (fun q => s.heap.size ≤ q) s.heap H locs) => Nat.le_trans hB0 h.1
  have hEn := fun (H : Heap) (locs : List Loc) (h : va_S (fun q => s.heap.size ≤ q) s.heap H locs) => gE_now hE h hAB
  have hl := lv_entry ([.ref a0, .int v1]) (n := 2) (Nat.le_of_ble_eq_true rfl)
  rw [lg_entry_eq]
  generalize (lg_sl ([.ref a0, .int v1]) ++ List.replicate (2 - (lg_sl ([.ref a0, .int v1])).length) Slot.unset).toArray = ls at hl ⊢
  have hl : lv_has ls 2 [(0, .ref a0), (1, .int v1)] := hl
  obtain ⟨H, hHe⟩ : ∃ H : Heap, H = s.heap := ⟨_, rfl⟩
  have hP : va_P D vwCl [oX7 a0 a_now a_past c_acts c_nextSlot a_plan a_picker a_rest a_packed, oX6 a_now c_now_today c_now_products c_now_itemCount a_now_items a_now_books a_now_terms a_now_shelves a_now_lots a_now_orders, oX5 a_now_shelves c_now_shelves_lanes c_now_shelves_positions c_now_shelves_room c_now_shelves_gap c_now_shelves_places c_now_shelves_picked a_now_shelves_lot a_now_shelves_pieces a_now_shelves_mark a_now_shelves_byDistance] H := by rw [hHe]; exact hP
  have hS : va_S (fun q => s.heap.size ≤ q) s.heap H [] := by rw [hHe]; exact hS
  refine W_heq hHe ?_
  unfold f_X7_needPlace at hf
  refine lv_aload_n hx hb dX7_needPlace_0 rfl (lv_at hl 0 rfl) ?_
  refine va_get (D := D) (ci := 6) (v := .ref a_now) (C := RX7) (T := TX7) (N := 8) hx hb hts (fun w h => mb (iX7 w h)) hown hK hP 0 rfl rfl 0 (by decide) (hts _ (mb tb_270)) (fun _ h9 => h9) rfl dX7_needPlace_1 ?_
  refine va_get (D := D) (ci := 5) (v := .ref a_now_shelves) (C := RX6) (T := TX6) (N := 9) hx hb hts (fun w h => mb (iX6 w h)) hown hK hP 1 rfl rfl 6 (by decide) (hts _ (mb tb_169)) (fun _ h9 => h9) rfl dX7_needPlace_4 ?_
  refine lv_iload_n hx hb dX7_needPlace_7 rfl (lv_at hl 1 rfl) ?_
  obtain ⟨r1, hc2, hf⟩ := ob1 hf
  refine ro_calli (r := r1) (va_runV (As := [.int v1]) (rest := []) ⟨hx, hb, hml, hown, hts⟩ (k_X5_exists l hl0 D cI cJ cZ cS B0 H a_now_shelves a_now_shelves_lot a_now_shelves_pieces a_now_shelves_mark a_now_shelves_byDistance c_now_shelves_lanes c_now_shelves_positions c_now_shelves_room c_now_shelves_gap c_now_shelves_places c_now_shelves_picked v1 r1 hc2) (cwV 1 hts (gV tb_759 tb_259 tb_260 tb_3 tb_261) rfl rfl rfl (by decide +kernel) ⟨Nat.le_of_ble_eq_true rfl, Nat.le_of_ble_eq_true rfl⟩) ⟨rp_blind, va_recv hK hP (ci := 4) (q0 := 2) rfl rfl, rp_pre (hP.sub [2] rfl) hK (hBn _ _ hS) (hEn _ _ hS)⟩ rfl rfl hl.1 rfl (lv_room (Nat.le_of_ble_eq_true rfl)) dX7_needPlace_8 ⟨Nat.le_of_ble_eq_true rfl, Nat.le_of_ble_eq_true rfl⟩) ?_
  refine lv_if_ne (tgt := 25) hx hb dX7_needPlace_11 (by decide) (fun h3 => ?_) (fun h3 => ?_)
  · have hf := ineg h3 hf
    cases hf
    refine vx_ret ?_
    refine W.widen (k := 1) (n := 6) (Nat.le_of_ble_eq_true rfl) (Nat.le_of_ble_eq_true rfl) ?_
    exact W.vret hx hb hr (fun t ht hW => ⟨⟨(), rfl, rfl, (ht.trans hHe)⟩, hS.F ht⟩) hS.2.2 dX7_needPlace_25
  · have hf := ipos h3 hf
    cases hf
    exact thrW_IO (is := 344) (text := "no such place") hx hb hl0 hown hts hE hAB (by decide) hS hl.1 dX7_needPlace_14 dX7_needPlace_17 dX7_needPlace_18 dX7_needPlace_21 dX7_needPlace_24 hml hno (Nat.le_of_ble_eq_true rfl) (Nat.le_of_ble_eq_true rfl) (Nat.le_of_ble_eq_true rfl) (Nat.le_of_ble_eq_true rfl) hlocks (fun t hal hz9 hk9 => ⟨(), trivial, rfl, va_S_F hS hz9 hk9⟩) hS.2.2 (Nat.le_of_ble_eq_true rfl) (Nat.le_of_ble_eq_true rfl)
def f_X7_placeAt (v1 : Int32) (v2 : Int32) (c_now_shelves_positions : Int32) (c_now_shelves_gap : Int32) (c_now_shelves_places : Int32) (c_now_shelves_lot : Nat → Int32) (c_now_shelves_pieces : Nat → Int32) (c_now_shelves_mark : Nat → Int32) : Option ((Except String Int32)) :=
  bnd1 (f_X7_needPlace v1 c_now_shelves_places) (fun r1 => mx r1 (fun E3 => some (.error E3)) (fun _ =>
  (bnd1 (f_X7_needRange v2 0 3) (fun r4 => mx r4 (fun E6 => some (.error E6)) (fun _ =>
  ((if v2 = 0 then gd v1 48 (some (.ok (c_now_shelves_lot v1.toNatClampNeg)))
  else (if v2 = 1 then gd v1 48 (some (.ok (c_now_shelves_pieces v1.toNatClampNeg)))
  else (if v2 = 2 then bnd1 (f_X5_distanceOf v1 c_now_shelves_positions c_now_shelves_gap) (fun r12 =>
  (some (.ok r12)))
  else gd v1 48 (some (.ok (c_now_shelves_mark v1.toNatClampNeg))))))))))))
set_option maxHeartbeats 4000000 in
set_option maxRecDepth 100000 in
theorem k_X7_placeAt (l : Launch) (hl0 : l.stackTraces = false) (D : va_G) (cI cJ cZ cS : ClassId) (B0 : Nat) (H0 : Heap) (a0 a_now a_past a_plan a_picker a_rest a_packed a_now_items a_now_books a_now_terms a_now_shelves a_now_lots a_now_orders a_now_shelves_lot a_now_shelves_pieces a_now_shelves_mark a_now_shelves_byDistance : Nat) (c_acts : Int32) (c_nextSlot : Int32) (c_now_today : Int32) (c_now_products : Int32) (c_now_itemCount : Int32) (c_now_shelves_lanes : Int32) (c_now_shelves_positions : Int32) (c_now_shelves_room : Int32) (c_now_shelves_gap : Int32) (c_now_shelves_places : Int32) (c_now_shelves_picked : Int64) (c_now_shelves_lot : Nat → Int32) (c_now_shelves_pieces : Nat → Int32) (c_now_shelves_mark : Nat → Int32) (v1 : Int32) (v2 : Int32) (r9 : Except String Int32)  (hf : f_X7_placeAt v1 v2 c_now_shelves_positions c_now_shelves_gap c_now_shelves_places c_now_shelves_lot c_now_shelves_pieces c_now_shelves_mark = some r9) : vx_Met l yX7_placeAt (wz yX7_placeAt cX7_placeAt 3 (some .int)) ({ frames := 7, cells := 1, slots := 6, locals := 112 }) (va_Pc [.ref a0, .int v1, .int v2] (rp D cI cJ cZ cS B0 [oX7 a0 a_now a_past c_acts c_nextSlot a_plan a_picker a_rest a_packed, oX6 a_now c_now_today c_now_products c_now_itemCount a_now_items a_now_books a_now_terms a_now_shelves a_now_lots a_now_orders, oX5 a_now_shelves c_now_shelves_lanes c_now_shelves_positions c_now_shelves_room c_now_shelves_gap c_now_shelves_places c_now_shelves_picked a_now_shelves_lot a_now_shelves_pieces a_now_shelves_mark a_now_shelves_byDistance, rI cI a_now_shelves_lot 48 c_now_shelves_lot, rI cI a_now_shelves_pieces 48 c_now_shelves_pieces, rI cI a_now_shelves_mark 48 c_now_shelves_mark] H0)) (va_Qi (fun (r2 : Int32) (_ : Unit) => r9 = .ok r2) (fun _ t => t.heap = H0) (fun q => H0.size ≤ q)) (vx_X (fun (_ : Unit) => True) (fun E _ _ => r9 = .error E) (fun q => H0.size ≤ q)) 1 6 (fun q => H0.size ≤ q) := by
  refine vx_ofW (cc := cX7_placeAt) (maxL := 3) (ret := (some .int)) (by decide +kernel) rfl ?_
  intro p e s m args below meth c s₁ B hml hno hv
  obtain ⟨rfl, hH, hP, hK, hB0, hE⟩ := hv
  subst hH
  have hx := B.exec
  have hb := B.bytes
  have hr := B.returns
  have hts := atoms_spec (ws := (wz yX7_placeAt cX7_placeAt 3 (some .int))) B.pre
  have hown : s.vm.findClass RX7 = some m.cls := findClass_of_methodNamed B.named
  have hlocks := B.notSynchronized
  have hAB : ∀ q : Nat, s.heap.size ≤ q → B0 ≤ q := fun q h => Nat.le_trans hB0 h
  have hA : ∀ q : Nat, s.heap.size ≤ q → s.heap.size ≤ q := fun _ h => h
  have hS : va_S (fun q => s.heap.size ≤ q) s.heap s.heap [] := va_S.rf
  have hBn := fun (H : Heap) (locs : List Loc) (h : va_S (fun q => s.heap.size ≤ q) s.heap H locs) => Nat.le_trans hB0 h.1
  have hEn := fun (H : Heap) (locs : List Loc) (h : va_S (fun q => s.heap.size ≤ q) s.heap H locs) => gE_now hE h hAB
  have hl := lv_entry ([.ref a0, .int v1, .int v2]) (n := 3) (Nat.le_of_ble_eq_true rfl)
  rw [lg_entry_eq]
  generalize (lg_sl ([.ref a0, .int v1, .int v2]) ++ List.replicate (3 - (lg_sl ([.ref a0, .int v1, .int v2])).length) Slot.unset).toArray = ls at hl ⊢
  have hl : lv_has ls 3 [(0, .ref a0), (1, .int v1), (2, .int v2)] := hl
  obtain ⟨H, hHe⟩ : ∃ H : Heap, H = s.heap := ⟨_, rfl⟩
  have hP : va_P D vwCl [oX7 a0 a_now a_past c_acts c_nextSlot a_plan a_picker a_rest a_packed, oX6 a_now c_now_today c_now_products c_now_itemCount a_now_items a_now_books a_now_terms a_now_shelves a_now_lots a_now_orders, oX5 a_now_shelves c_now_shelves_lanes c_now_shelves_positions c_now_shelves_room c_now_shelves_gap c_now_shelves_places c_now_shelves_picked a_now_shelves_lot a_now_shelves_pieces a_now_shelves_mark a_now_shelves_byDistance, rI cI a_now_shelves_lot 48 c_now_shelves_lot, rI cI a_now_shelves_pieces 48 c_now_shelves_pieces, rI cI a_now_shelves_mark 48 c_now_shelves_mark] H := by rw [hHe]; exact hP
  have hS : va_S (fun q => s.heap.size ≤ q) s.heap H [] := by rw [hHe]; exact hS
  refine W_heq hHe ?_
  unfold f_X7_placeAt at hf
  refine lv_aload_n hx hb dX7_placeAt_0 rfl (lv_at hl 0 rfl) ?_
  refine lv_iload_n hx hb dX7_placeAt_1 rfl (lv_at hl 1 rfl) ?_
  obtain ⟨r1, hc2, hf⟩ := ob1 hf
  refine rx_callv (r9 := r1) (vx_runV (As := [.int v1]) (rest := []) ⟨hx, hb, hml, hown, hts⟩ (k_X7_needPlace l hl0 D cI cJ cZ cS B0 H a0 a_now a_past a_plan a_picker a_rest a_packed a_now_items a_now_books a_now_terms a_now_shelves a_now_lots a_now_orders a_now_shelves_lot a_now_shelves_pieces a_now_shelves_mark a_now_shelves_byDistance c_acts c_nextSlot c_now_today c_now_products c_now_itemCount c_now_shelves_lanes c_now_shelves_positions c_now_shelves_room c_now_shelves_gap c_now_shelves_places c_now_shelves_picked v1 r1 hc2) (cwV 1 hts (gV tb_755 tb_757 ts_15 tb_1 tb_758) rfl rfl rfl (by decide +kernel) ⟨Nat.le_of_ble_eq_true rfl, Nat.le_of_ble_eq_true rfl⟩) ⟨rp_blind, va_recv hK hP (ci := 6) (q0 := 0) rfl rfl, rp_pre (hP.sub [0, 1, 2] rfl) hK (hBn _ _ hS) (hEn _ _ hS)⟩ rfl rfl hl.1 rfl (lv_room (Nat.le_of_ble_eq_true rfl)) dX7_placeAt_2 ⟨Nat.le_of_ble_eq_true rfl, Nat.le_of_ble_eq_true rfl⟩) hS hA (fun E3 ce q9 H1 locs1 hE9 hz9 hk9 hS hq9 hv9 hcl9 => ?_) (fun hr9 => ?_)
  · subst hE9
    have hf := mx_e hf
    cases hf
    exact vx_out (fun x hx => (hno x hx).elim) hlocks hq9 hv9 hcl9 (fun t ht hal => ⟨(), trivial, rfl, hS.F ht⟩) hS.2.2 (Nat.le_of_ble_eq_true rfl) (Nat.le_of_ble_eq_true rfl)
  · subst hr9
    have hf := mx_o hf
    refine lv_iload_n hx hb dX7_placeAt_5 rfl (lv_at hl 2 rfl) ?_
    refine lv_iconst (v := 0) hx hb dX7_placeAt_6 (by decide) ?_
    refine lv_iconst (v := 3) hx hb dX7_placeAt_7 (by decide) ?_
    obtain ⟨r4, hc5, hf⟩ := ob1 hf
    refine rx_callv (r9 := r4) (vx_runS (As := [.int v2, .int 0, .int 3]) (rest := []) ⟨hx, hb, hml, hown, hts⟩ (k_X7_needRange l hl0 D cI cJ cZ cS B0 H v2 0 3 r4 hc5) (va_cwS 3 hts (gS tb_492 tb_493 tb_1 tb_494) rfl rfl rfl (by decide +kernel) ⟨Nat.le_of_ble_eq_true rfl, Nat.le_of_ble_eq_true rfl⟩) ⟨rp_blind, rp_pre (hP.sub [] rfl) hK (hBn _ _ hS) (hEn _ _ hS)⟩ rfl rfl hl.1 rfl (lv_room (Nat.le_of_ble_eq_true rfl)) dX7_placeAt_8 ⟨Nat.le_of_ble_eq_true rfl, Nat.le_of_ble_eq_true rfl⟩) hS hA (fun E6 ce q9 H1 locs1 hE9 hz9 hk9 hS hq9 hv9 hcl9 => ?_) (fun hr9 => ?_)
    · subst hE9
      have hf := mx_e hf
      cases hf
      exact vx_out (fun x hx => (hno x hx).elim) hlocks hq9 hv9 hcl9 (fun t ht hal => ⟨(), trivial, rfl, hS.F ht⟩) hS.2.2 (Nat.le_of_ble_eq_true rfl) (Nat.le_of_ble_eq_true rfl)
    · subst hr9
      have hf := mx_o hf
      refine lv_iload_n hx hb dX7_placeAt_11 rfl (lv_at hl 2 rfl) ?_
      by_cases h7 : v2 = 0
      · have hf := ipos h7 hf
        refine lv_tableIn (off := 28) (tgt := 40) hx hb dX7_placeAt_12 (by rw [h7]; decide) (by rw [h7]; decide) (by rw [h7]; rfl) (by decide) ?_
        refine lv_aload_n hx hb dX7_placeAt_40 rfl (lv_at hl 0 rfl) ?_
        refine va_get (D := D) (ci := 6) (v := .ref a_now) (C := RX7) (T := TX7) (N := 8) hx hb hts (fun w h => mb (iX7 w h)) hown hK hP 0 rfl rfl 0 (by decide) (hts _ (mb tb_270)) (fun _ h9 => h9) rfl dX7_placeAt_41 ?_
        refine va_get (D := D) (ci := 5) (v := .ref a_now_shelves) (C := RX6) (T := TX6) (N := 9) hx hb hts (fun w h => mb (iX6 w h)) hown hK hP 1 rfl rfl 6 (by decide) (hts _ (mb tb_169)) (fun _ h9 => h9) rfl dX7_placeAt_44 ?_
        refine va_get (D := D) (ci := 4) (v := .ref a_now_shelves_lot) (C := RX5) (T := TX5) (N := 10) hx hb hts (fun w h => mb (iX5 w h)) hown hK hP 2 rfl rfl 6 (by decide) (hts _ (mb tb_53)) (fun _ h9 => h9) rfl dX7_placeAt_47 ?_
        refine lv_iload_n hx hb dX7_placeAt_50 rfl (lv_at hl 1 rfl) ?_
        obtain ⟨h8, hf⟩ := ob_d hf
        refine va_iald hx hb hK hP 3 0 rfl rfl h8 dX7_placeAt_51 ?_
        cases hf
        refine vx_ret ?_
        refine W.widen (k := 1) (n := 6) (Nat.le_of_ble_eq_true rfl) (Nat.le_of_ble_eq_true rfl) ?_
        exact W.iret hx hb hr (fun t ht hW => ⟨⟨_, (), rfl, rfl, (ht.trans hHe)⟩, hS.F ht⟩) hS.2.2 dX7_placeAt_52
      · have hf := ineg h7 hf
        by_cases h9 : v2 = 1
        · have hf := ipos h9 hf
          refine lv_tableIn (off := 41) (tgt := 53) hx hb dX7_placeAt_12 (by rw [h9]; decide) (by rw [h9]; decide) (by rw [h9]; rfl) (by decide) ?_
          refine lv_aload_n hx hb dX7_placeAt_53 rfl (lv_at hl 0 rfl) ?_
          refine va_get (D := D) (ci := 6) (v := .ref a_now) (C := RX7) (T := TX7) (N := 8) hx hb hts (fun w h => mb (iX7 w h)) hown hK hP 0 rfl rfl 0 (by decide) (hts _ (mb tb_270)) (fun _ h9 => h9) rfl dX7_placeAt_54 ?_
          refine va_get (D := D) (ci := 5) (v := .ref a_now_shelves) (C := RX6) (T := TX6) (N := 9) hx hb hts (fun w h => mb (iX6 w h)) hown hK hP 1 rfl rfl 6 (by decide) (hts _ (mb tb_169)) (fun _ h9 => h9) rfl dX7_placeAt_57 ?_
          refine va_get (D := D) (ci := 4) (v := .ref a_now_shelves_pieces) (C := RX5) (T := TX5) (N := 10) hx hb hts (fun w h => mb (iX5 w h)) hown hK hP 2 rfl rfl 7 (by decide) (hts _ (mb tb_55)) (fun _ h9 => h9) rfl dX7_placeAt_60 ?_
          refine lv_iload_n hx hb dX7_placeAt_63 rfl (lv_at hl 1 rfl) ?_
          obtain ⟨h10, hf⟩ := ob_d hf
          refine va_iald hx hb hK hP 4 0 rfl rfl h10 dX7_placeAt_64 ?_
          cases hf
          refine vx_ret ?_
          refine W.widen (k := 1) (n := 6) (Nat.le_of_ble_eq_true rfl) (Nat.le_of_ble_eq_true rfl) ?_
          exact W.iret hx hb hr (fun t ht hW => ⟨⟨_, (), rfl, rfl, (ht.trans hHe)⟩, hS.F ht⟩) hS.2.2 dX7_placeAt_65
        · have hf := ineg h9 hf
          by_cases h11 : v2 = 2
          · have hf := ipos h11 hf
            refine lv_tableIn (off := 54) (tgt := 66) hx hb dX7_placeAt_12 (by rw [h11]; decide) (by rw [h11]; decide) (by rw [h11]; rfl) (by decide) ?_
            refine lv_aload_n hx hb dX7_placeAt_66 rfl (lv_at hl 0 rfl) ?_
            refine va_get (D := D) (ci := 6) (v := .ref a_now) (C := RX7) (T := TX7) (N := 8) hx hb hts (fun w h => mb (iX7 w h)) hown hK hP 0 rfl rfl 0 (by decide) (hts _ (mb tb_270)) (fun _ h9 => h9) rfl dX7_placeAt_67 ?_
            refine va_get (D := D) (ci := 5) (v := .ref a_now_shelves) (C := RX6) (T := TX6) (N := 9) hx hb hts (fun w h => mb (iX6 w h)) hown hK hP 1 rfl rfl 6 (by decide) (hts _ (mb tb_169)) (fun _ h9 => h9) rfl dX7_placeAt_70 ?_
            refine lv_iload_n hx hb dX7_placeAt_73 rfl (lv_at hl 1 rfl) ?_
            obtain ⟨r12, hc13, hf⟩ := ob1 hf
            refine ro_calli (r := r12) (va_runV (As := [.int v1]) (rest := []) ⟨hx, hb, hml, hown, hts⟩ (k_X5_distanceOf l hl0 D cI cJ cZ cS B0 H a_now_shelves a_now_shelves_lot a_now_shelves_pieces a_now_shelves_mark a_now_shelves_byDistance c_now_shelves_lanes c_now_shelves_positions c_now_shelves_room c_now_shelves_gap c_now_shelves_places c_now_shelves_picked v1 r12 hc13) (cwV 1 hts (gV tb_761 tb_267 tb_268 tb_3 tb_269) rfl rfl rfl (by decide +kernel) ⟨Nat.le_of_ble_eq_true rfl, Nat.le_of_ble_eq_true rfl⟩) ⟨rp_blind, va_recv hK hP (ci := 4) (q0 := 2) rfl rfl, rp_pre (hP.sub [2] rfl) hK (hBn _ _ hS) (hEn _ _ hS)⟩ rfl rfl hl.1 rfl (lv_room (Nat.le_of_ble_eq_true rfl)) dX7_placeAt_74 ⟨Nat.le_of_ble_eq_true rfl, Nat.le_of_ble_eq_true rfl⟩) ?_
            cases hf
            refine vx_ret ?_
            refine W.widen (k := 1) (n := 6) (Nat.le_of_ble_eq_true rfl) (Nat.le_of_ble_eq_true rfl) ?_
            exact W.iret hx hb hr (fun t ht hW => ⟨⟨_, (), rfl, rfl, (ht.trans hHe)⟩, hS.F ht⟩) hS.2.2 dX7_placeAt_77
          · have hf := ineg h11 hf
            refine lv_tableOut (tgt := 78) hx hb dX7_placeAt_12 (tsout 2 (by decide) (fun k hk => match k, hk with | 0, _ => h7 | 1, _ => h9 | 2, _ => h11 | k + 3, hk => absurd hk (by omega))) (by decide) ?_
            refine lv_aload_n hx hb dX7_placeAt_78 rfl (lv_at hl 0 rfl) ?_
            refine va_get (D := D) (ci := 6) (v := .ref a_now) (C := RX7) (T := TX7) (N := 8) hx hb hts (fun w h => mb (iX7 w h)) hown hK hP 0 rfl rfl 0 (by decide) (hts _ (mb tb_270)) (fun _ h9 => h9) rfl dX7_placeAt_79 ?_
            refine va_get (D := D) (ci := 5) (v := .ref a_now_shelves) (C := RX6) (T := TX6) (N := 9) hx hb hts (fun w h => mb (iX6 w h)) hown hK hP 1 rfl rfl 6 (by decide) (hts _ (mb tb_169)) (fun _ h9 => h9) rfl dX7_placeAt_82 ?_
            refine va_get (D := D) (ci := 4) (v := .ref a_now_shelves_mark) (C := RX5) (T := TX5) (N := 10) hx hb hts (fun w h => mb (iX5 w h)) hown hK hP 2 rfl rfl 8 (by decide) (hts _ (mb tb_57)) (fun _ h9 => h9) rfl dX7_placeAt_85 ?_
            refine lv_iload_n hx hb dX7_placeAt_88 rfl (lv_at hl 1 rfl) ?_
            obtain ⟨h14, hf⟩ := ob_d hf
            refine va_iald hx hb hK hP 5 0 rfl rfl h14 dX7_placeAt_89 ?_
            cases hf
            refine vx_ret ?_
            refine W.widen (k := 1) (n := 6) (Nat.le_of_ble_eq_true rfl) (Nat.le_of_ble_eq_true rfl) ?_
            exact W.iret hx hb hr (fun t ht hW => ⟨⟨_, (), rfl, rfl, (ht.trans hHe)⟩, hS.F ht⟩) hS.2.2 dX7_placeAt_90
def f_X7_firstFree (c_now_shelves_places : Int32) (c_now_shelves_pieces : Nat → Int32) (c_now_shelves_byDistance : Nat → Int32) : Option ((Except String Int32)) :=
  bnd1 (f_X5_nearestFree c_now_shelves_places c_now_shelves_pieces c_now_shelves_byDistance) (fun r1 =>
  ((if r1 = (-1) then some (.error "java/util/NoSuchElementException")
  else some (.ok r1))))
set_option maxHeartbeats 4000000 in
set_option maxRecDepth 100000 in
theorem k_X7_firstFree (l : Launch) (hl0 : l.stackTraces = false) (D : va_G) (cI cJ cZ cS : ClassId) (B0 : Nat) (H0 : Heap) (a0 a_now a_past a_plan a_picker a_rest a_packed a_now_items a_now_books a_now_terms a_now_shelves a_now_lots a_now_orders a_now_shelves_lot a_now_shelves_pieces a_now_shelves_mark a_now_shelves_byDistance : Nat) (c_acts : Int32) (c_nextSlot : Int32) (c_now_today : Int32) (c_now_products : Int32) (c_now_itemCount : Int32) (c_now_shelves_lanes : Int32) (c_now_shelves_positions : Int32) (c_now_shelves_room : Int32) (c_now_shelves_gap : Int32) (c_now_shelves_places : Int32) (c_now_shelves_picked : Int64) (c_now_shelves_pieces : Nat → Int32) (c_now_shelves_byDistance : Nat → Int32) (r9 : Except String Int32)  (hf : f_X7_firstFree c_now_shelves_places c_now_shelves_pieces c_now_shelves_byDistance = some r9) : vx_Met l yX7_firstFree (wz yX7_firstFree cX7_firstFree 2 (some .int)) ({ frames := 6, cells := 1, slots := 6, locals := 90 }) (va_Pc [.ref a0] (rp D cI cJ cZ cS B0 [oX7 a0 a_now a_past c_acts c_nextSlot a_plan a_picker a_rest a_packed, oX6 a_now c_now_today c_now_products c_now_itemCount a_now_items a_now_books a_now_terms a_now_shelves a_now_lots a_now_orders, oX5 a_now_shelves c_now_shelves_lanes c_now_shelves_positions c_now_shelves_room c_now_shelves_gap c_now_shelves_places c_now_shelves_picked a_now_shelves_lot a_now_shelves_pieces a_now_shelves_mark a_now_shelves_byDistance, rI cI a_now_shelves_pieces 48 c_now_shelves_pieces, rI cI a_now_shelves_byDistance 48 c_now_shelves_byDistance] H0)) (va_Qi (fun (r2 : Int32) (_ : Unit) => r9 = .ok r2) (fun _ t => t.heap = H0) (fun q => H0.size ≤ q)) (vx_X (fun (_ : Unit) => True) (fun E _ _ => r9 = .error E) (fun q => H0.size ≤ q)) 1 6 (fun q => H0.size ≤ q) := by
  refine vx_ofW (cc := cX7_firstFree) (maxL := 2) (ret := (some .int)) (by decide +kernel) rfl ?_
  intro p e s m args below meth c s₁ B hml hno hv
  obtain ⟨rfl, hH, hP, hK, hB0, hE⟩ := hv
  subst hH
  have hx := B.exec
  have hb := B.bytes
  have hr := B.returns
  have hts := atoms_spec (ws := (wz yX7_firstFree cX7_firstFree 2 (some .int))) B.pre
  have hown : s.vm.findClass RX7 = some m.cls := findClass_of_methodNamed B.named
  have hlocks := B.notSynchronized
  have hAB : ∀ q : Nat, s.heap.size ≤ q → B0 ≤ q := fun q h => Nat.le_trans hB0 h
  have hA : ∀ q : Nat, s.heap.size ≤ q → s.heap.size ≤ q := fun _ h => h
  have hS : va_S (fun q => s.heap.size ≤ q) s.heap s.heap [] := va_S.rf
  have hBn := fun (H : Heap) (locs : List Loc) (h : va_S (fun q => s.heap.size ≤ q) s.heap H locs) => Nat.le_trans hB0 h.1
  have hEn := fun (H : Heap) (locs : List Loc) (h : va_S (fun q => s.heap.size ≤ q) s.heap H locs) => gE_now hE h hAB
  have hl := lv_entry ([.ref a0]) (n := 2) (Nat.le_of_ble_eq_true rfl)
  rw [lg_entry_eq]
  generalize (lg_sl ([.ref a0]) ++ List.replicate (2 - (lg_sl ([.ref a0])).length) Slot.unset).toArray = ls at hl ⊢
  have hl : lv_has ls 2 [(0, .ref a0)] := hl
  obtain ⟨H, hHe⟩ : ∃ H : Heap, H = s.heap := ⟨_, rfl⟩
  have hP : va_P D vwCl [oX7 a0 a_now a_past c_acts c_nextSlot a_plan a_picker a_rest a_packed, oX6 a_now c_now_today c_now_products c_now_itemCount a_now_items a_now_books a_now_terms a_now_shelves a_now_lots a_now_orders, oX5 a_now_shelves c_now_shelves_lanes c_now_shelves_positions c_now_shelves_room c_now_shelves_gap c_now_shelves_places c_now_shelves_picked a_now_shelves_lot a_now_shelves_pieces a_now_shelves_mark a_now_shelves_byDistance, rI cI a_now_shelves_pieces 48 c_now_shelves_pieces, rI cI a_now_shelves_byDistance 48 c_now_shelves_byDistance] H := by rw [hHe]; exact hP
  have hS : va_S (fun q => s.heap.size ≤ q) s.heap H [] := by rw [hHe]; exact hS
  refine W_heq hHe ?_
  unfold f_X7_firstFree at hf
  refine lv_aload_n hx hb dX7_firstFree_0 rfl (lv_at hl 0 rfl) ?_
  refine va_get (D := D) (ci := 6) (v := .ref a_now) (C := RX7) (T := TX7) (N := 8) hx hb hts (fun w h => mb (iX7 w h)) hown hK hP 0 rfl rfl 0 (by decide) (hts _ (mb tb_270)) (fun _ h9 => h9) rfl dX7_firstFree_1 ?_
  refine va_get (D := D) (ci := 5) (v := .ref a_now_shelves) (C := RX6) (T := TX6) (N := 9) hx hb hts (fun w h => mb (iX6 w h)) hown hK hP 1 rfl rfl 6 (by decide) (hts _ (mb tb_169)) (fun _ h9 => h9) rfl dX7_firstFree_4 ?_
  obtain ⟨r1, hc2, hf⟩ := ob1 hf
  refine ro_calli (r := r1) (va_runV (As := []) (rest := []) ⟨hx, hb, hml, hown, hts⟩ (k_X5_nearestFree l hl0 D cI cJ cZ cS B0 H a_now_shelves a_now_shelves_lot a_now_shelves_pieces a_now_shelves_mark a_now_shelves_byDistance c_now_shelves_lanes c_now_shelves_positions c_now_shelves_room c_now_shelves_gap c_now_shelves_places c_now_shelves_picked c_now_shelves_pieces c_now_shelves_byDistance r1 hc2) (cwV 0 hts (gV tb_770 tb_771 tb_772 tb_3 tb_773) rfl rfl rfl (by decide +kernel) ⟨Nat.le_of_ble_eq_true rfl, Nat.le_of_ble_eq_true rfl⟩) ⟨rp_blind, va_recv hK hP (ci := 4) (q0 := 2) rfl rfl, rp_pre (hP.sub [2, 3, 4] rfl) hK (hBn _ _ hS) (hEn _ _ hS)⟩ rfl rfl hl.1 rfl (lv_room (Nat.le_of_ble_eq_true rfl)) dX7_firstFree_7 ⟨Nat.le_of_ble_eq_true rfl, Nat.le_of_ble_eq_true rfl⟩) ?_
  refine lv_istore_n (lv' := [(1, .int r1), (0, .ref a0)]) hx hb dX7_firstFree_10 rfl hl (by decide) rfl (fun ls hl => ?_)
  refine lv_iload_n hx hb dX7_firstFree_11 rfl (lv_at hl 0 rfl) ?_
  refine lv_iconst (v := (-1)) hx hb dX7_firstFree_12 (by decide) ?_
  refine lv_icmp_ne (tgt := 26) hx hb dX7_firstFree_13 (by decide) (fun h3 => ?_) (fun h3 => ?_)
  · have hf := ineg h3 hf
    refine lv_iload_n hx hb dX7_firstFree_26 rfl (lv_at hl 0 rfl) ?_
    cases hf
    refine vx_ret ?_
    refine W.widen (k := 1) (n := 6) (Nat.le_of_ble_eq_true rfl) (Nat.le_of_ble_eq_true rfl) ?_
    exact W.iret hx hb hr (fun t ht hW => ⟨⟨_, (), rfl, rfl, (ht.trans hHe)⟩, hS.F ht⟩) hS.2.2 dX7_firstFree_27
  · have hf := ipos h3 hf
    cases hf
    exact thr_NS (is := 181) (text := "no place is free") hx hb hl0 hown hts hE hAB (by decide) hS hl.1 dX7_firstFree_16 dX7_firstFree_19 dX7_firstFree_20 dX7_firstFree_22 dX7_firstFree_25 hml hno (Nat.le_of_ble_eq_true rfl) (Nat.le_of_ble_eq_true rfl) (Nat.le_of_ble_eq_true rfl) (Nat.le_of_ble_eq_true rfl) hlocks (fun t hal hz9 hk9 => ⟨(), trivial, rfl, va_S_F hS hz9 hk9⟩) hS.2.2 (Nat.le_of_ble_eq_true rfl) (Nat.le_of_ble_eq_true rfl)
def f_X7_needOrder (v1 : Int32) (c_now_orders_count : Int32) : Option ((Except String Unit)) :=
  bnd1 (f_X2_exists v1 c_now_orders_count) (fun r1 =>
  ((if r1 = 0 then some (.error "java/lang/IndexOutOfBoundsException")
  else some (.ok ()))))
set_option maxHeartbeats 4000000 in
set_option maxRecDepth 100000 in
theorem k_X7_needOrder (l : Launch) (hl0 : l.stackTraces = false) (D : va_G) (cI cJ cZ cS : ClassId) (B0 : Nat) (H0 : Heap) (a0 a_now a_past a_plan a_picker a_rest a_packed a_now_items a_now_books a_now_terms a_now_shelves a_now_lots a_now_orders a_now_orders_customer a_now_orders_product a_now_orders_open a_now_orders_due a_now_orders_life a_now_orders_byDue a_now_orders_had a_now_orders_stamps : Nat) (c_acts : Int32) (c_nextSlot : Int32) (c_now_today : Int32) (c_now_products : Int32) (c_now_itemCount : Int32) (c_now_orders_count : Int32) (c_now_orders_gifts : Int32) (v1 : Int32) (r9 : Except String Unit)  (hf : f_X7_needOrder v1 c_now_orders_count = some r9) : vx_Met l yX7_needOrder (wz yX7_needOrder cX7_needOrder 2 none) ({ frames := 6, cells := 1, slots := 6, locals := 90 }) (va_Pc [.ref a0, .int v1] (rp D cI cJ cZ cS B0 [oX7 a0 a_now a_past c_acts c_nextSlot a_plan a_picker a_rest a_packed, oX6 a_now c_now_today c_now_products c_now_itemCount a_now_items a_now_books a_now_terms a_now_shelves a_now_lots a_now_orders, oX2 a_now_orders c_now_orders_count c_now_orders_gifts a_now_orders_customer a_now_orders_product a_now_orders_open a_now_orders_due a_now_orders_life a_now_orders_byDue a_now_orders_had a_now_orders_stamps] H0)) (va_Qv (fun (_ : Unit) => r9 = .ok ()) (fun _ t => t.heap = H0) (fun q => H0.size ≤ q)) (vx_X (fun (_ : Unit) => True) (fun E _ _ => r9 = .error E) (fun q => H0.size ≤ q)) 1 6 (fun q => H0.size ≤ q) := by
  refine vx_ofW (cc := cX7_needOrder) (maxL := 2) (ret := none) (by decide +kernel) rfl ?_
  intro p e s m args below meth c s₁ B hml hno hv
  obtain ⟨rfl, hH, hP, hK, hB0, hE⟩ := hv
  subst hH
  have hx := B.exec
  have hb := B.bytes
  have hr := B.returns
  have hts := atoms_spec (ws := (wz yX7_needOrder cX7_needOrder 2 none)) B.pre
  have hown : s.vm.findClass RX7 = some m.cls := findClass_of_methodNamed B.named
  have hlocks := B.notSynchronized
  have hAB : ∀ q : Nat, s.heap.size ≤ q → B0 ≤ q := fun q h => Nat.le_trans hB0 h
  have hA : ∀ q : Nat, s.heap.size ≤ q → s.heap.size ≤ q := fun _ h => h
  have hS : va_S (fun q => s.heap.size ≤ q) s.heap s.heap [] := va_S.rf
  have hBn := fun (H : Heap) (locs : List Loc) (h : va_S (fun q => s.heap.size ≤ q) s.heap H locs) => Nat.le_trans hB0 h.1
  have hEn := fun (H : Heap) (locs : List Loc) (h : va_S (fun q => s.heap.size ≤ q) s.heap H locs) => gE_now hE h hAB
  have hl := lv_entry ([.ref a0, .int v1]) (n := 2) (Nat.le_of_ble_eq_true rfl)
  rw [lg_entry_eq]
  generalize (lg_sl ([.ref a0, .int v1]) ++ List.replicate (2 - (lg_sl ([.ref a0, .int v1])).length) Slot.unset).toArray = ls at hl ⊢
  have hl : lv_has ls 2 [(0, .ref a0), (1, .int v1)] := hl
  obtain ⟨H, hHe⟩ : ∃ H : Heap, H = s.heap := ⟨_, rfl⟩
  have hP : va_P D vwCl [oX7 a0 a_now a_past c_acts c_nextSlot a_plan a_picker a_rest a_packed, oX6 a_now c_now_today c_now_products c_now_itemCount a_now_items a_now_books a_now_terms a_now_shelves a_now_lots a_now_orders, oX2 a_now_orders c_now_orders_count c_now_orders_gifts a_now_orders_customer a_now_orders_product a_now_orders_open a_now_orders_due a_now_orders_life a_now_orders_byDue a_now_orders_had a_now_orders_stamps] H := by rw [hHe]; exact hP
  have hS : va_S (fun q => s.heap.size ≤ q) s.heap H [] := by rw [hHe]; exact hS
  refine W_heq hHe ?_
  unfold f_X7_needOrder at hf
  refine lv_aload_n hx hb dX7_needOrder_0 rfl (lv_at hl 0 rfl) ?_
  refine va_get (D := D) (ci := 6) (v := .ref a_now) (C := RX7) (T := TX7) (N := 8) hx hb hts (fun w h => mb (iX7 w h)) hown hK hP 0 rfl rfl 0 (by decide) (hts _ (mb tb_270)) (fun _ h9 => h9) rfl dX7_needOrder_1 ?_
  refine va_get (D := D) (ci := 5) (v := .ref a_now_orders) (C := RX6) (T := TX6) (N := 9) hx hb hts (fun w h => mb (iX6 w h)) hown hK hP 1 rfl rfl 8 (by decide) (hts _ (mb tb_173)) (fun _ h9 => h9) rfl dX7_needOrder_4 ?_
  refine lv_iload_n hx hb dX7_needOrder_7 rfl (lv_at hl 1 rfl) ?_
  obtain ⟨r1, hc2, hf⟩ := ob1 hf
  refine ro_calli (r := r1) (va_runV (As := [.int v1]) (rest := []) ⟨hx, hb, hml, hown, hts⟩ (k_X2_exists l hl0 D cI cJ cZ cS B0 H a_now_orders a_now_orders_customer a_now_orders_product a_now_orders_open a_now_orders_due a_now_orders_life a_now_orders_byDue a_now_orders_had a_now_orders_stamps c_now_orders_count c_now_orders_gifts v1 r1 hc2) (cwV 1 hts (gV tb_350 tb_351 tb_352 tb_5 tb_353) rfl rfl rfl (by decide +kernel) ⟨Nat.le_of_ble_eq_true rfl, Nat.le_of_ble_eq_true rfl⟩) ⟨rp_blind, va_recv hK hP (ci := 1) (q0 := 2) rfl rfl, rp_pre (hP.sub [2] rfl) hK (hBn _ _ hS) (hEn _ _ hS)⟩ rfl rfl hl.1 rfl (lv_room (Nat.le_of_ble_eq_true rfl)) dX7_needOrder_8 ⟨Nat.le_of_ble_eq_true rfl, Nat.le_of_ble_eq_true rfl⟩) ?_
  refine lv_if_ne (tgt := 25) hx hb dX7_needOrder_11 (by decide) (fun h3 => ?_) (fun h3 => ?_)
  · have hf := ineg h3 hf
    cases hf
    refine vx_ret ?_
    refine W.widen (k := 1) (n := 6) (Nat.le_of_ble_eq_true rfl) (Nat.le_of_ble_eq_true rfl) ?_
    exact W.vret hx hb hr (fun t ht hW => ⟨⟨(), rfl, rfl, (ht.trans hHe)⟩, hS.F ht⟩) hS.2.2 dX7_needOrder_25
  · have hf := ipos h3 hf
    cases hf
    exact thrW_IO (is := 347) (text := "no such order") hx hb hl0 hown hts hE hAB (by decide) hS hl.1 dX7_needOrder_14 dX7_needOrder_17 dX7_needOrder_18 dX7_needOrder_21 dX7_needOrder_24 hml hno (Nat.le_of_ble_eq_true rfl) (Nat.le_of_ble_eq_true rfl) (Nat.le_of_ble_eq_true rfl) (Nat.le_of_ble_eq_true rfl) hlocks (fun t hal hz9 hk9 => ⟨(), trivial, rfl, va_S_F hS hz9 hk9⟩) hS.2.2 (Nat.le_of_ble_eq_true rfl) (Nat.le_of_ble_eq_true rfl)
def f_X7_orderAt (v1 : Int32) (v2 : Int32) (c_now_orders_count : Int32) (c_now_orders_customer : Nat → Int32) (c_now_orders_product : Nat → Int32) (c_now_orders_open : Nat → Int32) (c_now_orders_due : Nat → Int32) (c_now_orders_life : Nat → Int32) (c_now_orders_had : Nat → Int32) : Option ((Except String Int32)) :=
  bnd1 (f_X7_needOrder v1 c_now_orders_count) (fun r1 => mx r1 (fun E3 => some (.error E3)) (fun _ =>
  (bnd1 (f_X7_needRange v2 0 5) (fun r4 => mx r4 (fun E6 => some (.error E6)) (fun _ =>
  ((if v2 = 0 then gd v1 40 (some (.ok (c_now_orders_customer v1.toNatClampNeg)))
  else (if v2 = 1 then gd v1 40 (some (.ok (c_now_orders_product v1.toNatClampNeg)))
  else (if v2 = 2 then gd v1 40 (some (.ok (c_now_orders_open v1.toNatClampNeg)))
  else (if v2 = 3 then bnd1 (f_X2_piecesAt v1 c_now_orders_count c_now_orders_had) (fun r14 =>
  (some (.ok r14)))
  else (if v2 = 4 then gd v1 40 (some (.ok (c_now_orders_due v1.toNatClampNeg)))
  else bnd1 (f_X2_wantedDay v1 c_now_orders_count c_now_orders_due c_now_orders_life) (fun r18 =>
  (some (.ok r18))))))))))))))
set_option maxHeartbeats 4000000 in
set_option maxRecDepth 100000 in
theorem k_X7_orderAt (l : Launch) (hl0 : l.stackTraces = false) (D : va_G) (cI cJ cZ cS : ClassId) (B0 : Nat) (H0 : Heap) (a0 a_now a_past a_plan a_picker a_rest a_packed a_now_items a_now_books a_now_terms a_now_shelves a_now_lots a_now_orders a_now_orders_customer a_now_orders_product a_now_orders_open a_now_orders_due a_now_orders_life a_now_orders_byDue a_now_orders_had a_now_orders_stamps : Nat) (c_acts : Int32) (c_nextSlot : Int32) (c_now_today : Int32) (c_now_products : Int32) (c_now_itemCount : Int32) (c_now_orders_count : Int32) (c_now_orders_gifts : Int32) (c_now_orders_customer : Nat → Int32) (c_now_orders_product : Nat → Int32) (c_now_orders_open : Nat → Int32) (c_now_orders_due : Nat → Int32) (c_now_orders_life : Nat → Int32) (c_now_orders_had : Nat → Int32) (v1 : Int32) (v2 : Int32) (r9 : Except String Int32)  (hf : f_X7_orderAt v1 v2 c_now_orders_count c_now_orders_customer c_now_orders_product c_now_orders_open c_now_orders_due c_now_orders_life c_now_orders_had = some r9) : vx_Met l yX7_orderAt (wz yX7_orderAt cX7_orderAt 3 (some .int)) ({ frames := 7, cells := 1, slots := 6, locals := 112 }) (va_Pc [.ref a0, .int v1, .int v2] (rp D cI cJ cZ cS B0 [oX7 a0 a_now a_past c_acts c_nextSlot a_plan a_picker a_rest a_packed, oX6 a_now c_now_today c_now_products c_now_itemCount a_now_items a_now_books a_now_terms a_now_shelves a_now_lots a_now_orders, oX2 a_now_orders c_now_orders_count c_now_orders_gifts a_now_orders_customer a_now_orders_product a_now_orders_open a_now_orders_due a_now_orders_life a_now_orders_byDue a_now_orders_had a_now_orders_stamps, rI cI a_now_orders_customer 40 c_now_orders_customer, rI cI a_now_orders_product 40 c_now_orders_product, rI cI a_now_orders_open 40 c_now_orders_open, rI cI a_now_orders_due 40 c_now_orders_due, rI cI a_now_orders_life 40 c_now_orders_life, rI cI a_now_orders_had 960 c_now_orders_had] H0)) (va_Qi (fun (r2 : Int32) (_ : Unit) => r9 = .ok r2) (fun _ t => t.heap = H0) (fun q => H0.size ≤ q)) (vx_X (fun (_ : Unit) => True) (fun E _ _ => r9 = .error E) (fun q => H0.size ≤ q)) 1 6 (fun q => H0.size ≤ q) := by
  refine vx_ofW (cc := cX7_orderAt) (maxL := 3) (ret := (some .int)) (by decide +kernel) rfl ?_
  intro p e s m args below meth c s₁ B hml hno hv
  obtain ⟨rfl, hH, hP, hK, hB0, hE⟩ := hv
  subst hH
  have hx := B.exec
  have hb := B.bytes
  have hr := B.returns
  have hts := atoms_spec (ws := (wz yX7_orderAt cX7_orderAt 3 (some .int))) B.pre
  have hown : s.vm.findClass RX7 = some m.cls := findClass_of_methodNamed B.named
  have hlocks := B.notSynchronized
  have hAB : ∀ q : Nat, s.heap.size ≤ q → B0 ≤ q := fun q h => Nat.le_trans hB0 h
  have hA : ∀ q : Nat, s.heap.size ≤ q → s.heap.size ≤ q := fun _ h => h
  have hS : va_S (fun q => s.heap.size ≤ q) s.heap s.heap [] := va_S.rf
  have hBn := fun (H : Heap) (locs : List Loc) (h : va_S (fun q => s.heap.size ≤ q) s.heap H locs) => Nat.le_trans hB0 h.1
  have hEn := fun (H : Heap) (locs : List Loc) (h : va_S (fun q => s.heap.size ≤ q) s.heap H locs) => gE_now hE h hAB
  have hl := lv_entry ([.ref a0, .int v1, .int v2]) (n := 3) (Nat.le_of_ble_eq_true rfl)
  rw [lg_entry_eq]
  generalize (lg_sl ([.ref a0, .int v1, .int v2]) ++ List.replicate (3 - (lg_sl ([.ref a0, .int v1, .int v2])).length) Slot.unset).toArray = ls at hl ⊢
  have hl : lv_has ls 3 [(0, .ref a0), (1, .int v1), (2, .int v2)] := hl
  obtain ⟨H, hHe⟩ : ∃ H : Heap, H = s.heap := ⟨_, rfl⟩
  have hP : va_P D vwCl [oX7 a0 a_now a_past c_acts c_nextSlot a_plan a_picker a_rest a_packed, oX6 a_now c_now_today c_now_products c_now_itemCount a_now_items a_now_books a_now_terms a_now_shelves a_now_lots a_now_orders, oX2 a_now_orders c_now_orders_count c_now_orders_gifts a_now_orders_customer a_now_orders_product a_now_orders_open a_now_orders_due a_now_orders_life a_now_orders_byDue a_now_orders_had a_now_orders_stamps, rI cI a_now_orders_customer 40 c_now_orders_customer, rI cI a_now_orders_product 40 c_now_orders_product, rI cI a_now_orders_open 40 c_now_orders_open, rI cI a_now_orders_due 40 c_now_orders_due, rI cI a_now_orders_life 40 c_now_orders_life, rI cI a_now_orders_had 960 c_now_orders_had] H := by rw [hHe]; exact hP
  have hS : va_S (fun q => s.heap.size ≤ q) s.heap H [] := by rw [hHe]; exact hS
  refine W_heq hHe ?_
  unfold f_X7_orderAt at hf
  refine lv_aload_n hx hb dX7_orderAt_0 rfl (lv_at hl 0 rfl) ?_
  refine lv_iload_n hx hb dX7_orderAt_1 rfl (lv_at hl 1 rfl) ?_
  obtain ⟨r1, hc2, hf⟩ := ob1 hf
  refine rx_callv (r9 := r1) (vx_runV (As := [.int v1]) (rest := []) ⟨hx, hb, hml, hown, hts⟩ (k_X7_needOrder l hl0 D cI cJ cZ cS B0 H a0 a_now a_past a_plan a_picker a_rest a_packed a_now_items a_now_books a_now_terms a_now_shelves a_now_lots a_now_orders a_now_orders_customer a_now_orders_product a_now_orders_open a_now_orders_due a_now_orders_life a_now_orders_byDue a_now_orders_had a_now_orders_stamps c_acts c_nextSlot c_now_today c_now_products c_now_itemCount c_now_orders_count c_now_orders_gifts v1 r1 hc2) (cwV 1 hts (gV tb_837 tb_839 ts_17 tb_1 tb_840) rfl rfl rfl (by decide +kernel) ⟨Nat.le_of_ble_eq_true rfl, Nat.le_of_ble_eq_true rfl⟩) ⟨rp_blind, va_recv hK hP (ci := 6) (q0 := 0) rfl rfl, rp_pre (hP.sub [0, 1, 2] rfl) hK (hBn _ _ hS) (hEn _ _ hS)⟩ rfl rfl hl.1 rfl (lv_room (Nat.le_of_ble_eq_true rfl)) dX7_orderAt_2 ⟨Nat.le_of_ble_eq_true rfl, Nat.le_of_ble_eq_true rfl⟩) hS hA (fun E3 ce q9 H1 locs1 hE9 hz9 hk9 hS hq9 hv9 hcl9 => ?_) (fun hr9 => ?_)
  · subst hE9
    have hf := mx_e hf
    cases hf
    exact vx_out (fun x hx => (hno x hx).elim) hlocks hq9 hv9 hcl9 (fun t ht hal => ⟨(), trivial, rfl, hS.F ht⟩) hS.2.2 (Nat.le_of_ble_eq_true rfl) (Nat.le_of_ble_eq_true rfl)
  · subst hr9
    have hf := mx_o hf
    refine lv_iload_n hx hb dX7_orderAt_5 rfl (lv_at hl 2 rfl) ?_
    refine lv_iconst (v := 0) hx hb dX7_orderAt_6 (by decide) ?_
    refine lv_iconst (v := 5) hx hb dX7_orderAt_7 (by decide) ?_
    obtain ⟨r4, hc5, hf⟩ := ob1 hf
    refine rx_callv (r9 := r4) (vx_runS (As := [.int v2, .int 0, .int 5]) (rest := []) ⟨hx, hb, hml, hown, hts⟩ (k_X7_needRange l hl0 D cI cJ cZ cS B0 H v2 0 5 r4 hc5) (va_cwS 3 hts (gS tb_492 tb_493 tb_1 tb_494) rfl rfl rfl (by decide +kernel) ⟨Nat.le_of_ble_eq_true rfl, Nat.le_of_ble_eq_true rfl⟩) ⟨rp_blind, rp_pre (hP.sub [] rfl) hK (hBn _ _ hS) (hEn _ _ hS)⟩ rfl rfl hl.1 rfl (lv_room (Nat.le_of_ble_eq_true rfl)) dX7_orderAt_8 ⟨Nat.le_of_ble_eq_true rfl, Nat.le_of_ble_eq_true rfl⟩) hS hA (fun E6 ce q9 H1 locs1 hE9 hz9 hk9 hS hq9 hv9 hcl9 => ?_) (fun hr9 => ?_)
    · subst hE9
      have hf := mx_e hf
      cases hf
      exact vx_out (fun x hx => (hno x hx).elim) hlocks hq9 hv9 hcl9 (fun t ht hal => ⟨(), trivial, rfl, hS.F ht⟩) hS.2.2 (Nat.le_of_ble_eq_true rfl) (Nat.le_of_ble_eq_true rfl)
    · subst hr9
      have hf := mx_o hf
      refine lv_iload_n hx hb dX7_orderAt_11 rfl (lv_at hl 2 rfl) ?_
      by_cases h7 : v2 = 0
      · have hf := ipos h7 hf
        refine lv_tableIn (off := 36) (tgt := 48) hx hb dX7_orderAt_12 (by rw [h7]; decide) (by rw [h7]; decide) (by rw [h7]; rfl) (by decide) ?_
        refine lv_aload_n hx hb dX7_orderAt_48 rfl (lv_at hl 0 rfl) ?_
        refine va_get (D := D) (ci := 6) (v := .ref a_now) (C := RX7) (T := TX7) (N := 8) hx hb hts (fun w h => mb (iX7 w h)) hown hK hP 0 rfl rfl 0 (by decide) (hts _ (mb tb_270)) (fun _ h9 => h9) rfl dX7_orderAt_49 ?_
        refine va_get (D := D) (ci := 5) (v := .ref a_now_orders) (C := RX6) (T := TX6) (N := 9) hx hb hts (fun w h => mb (iX6 w h)) hown hK hP 1 rfl rfl 8 (by decide) (hts _ (mb tb_173)) (fun _ h9 => h9) rfl dX7_orderAt_52 ?_
        refine va_get (D := D) (ci := 1) (v := .ref a_now_orders_customer) (C := RX2) (T := TX2) (N := 10) hx hb hts (fun w h => mb (iX2 w h)) hown hK hP 2 rfl rfl 2 (by decide) (hts _ (mb tb_123)) (fun _ h9 => h9) rfl dX7_orderAt_55 ?_
        refine lv_iload_n hx hb dX7_orderAt_58 rfl (lv_at hl 1 rfl) ?_
        obtain ⟨h8, hf⟩ := ob_d hf
        refine va_iald hx hb hK hP 3 0 rfl rfl h8 dX7_orderAt_59 ?_
        cases hf
        refine vx_ret ?_
        refine W.widen (k := 1) (n := 6) (Nat.le_of_ble_eq_true rfl) (Nat.le_of_ble_eq_true rfl) ?_
        exact W.iret hx hb hr (fun t ht hW => ⟨⟨_, (), rfl, rfl, (ht.trans hHe)⟩, hS.F ht⟩) hS.2.2 dX7_orderAt_60
      · have hf := ineg h7 hf
        by_cases h9 : v2 = 1
        · have hf := ipos h9 hf
          refine lv_tableIn (off := 49) (tgt := 61) hx hb dX7_orderAt_12 (by rw [h9]; decide) (by rw [h9]; decide) (by rw [h9]; rfl) (by decide) ?_
          refine lv_aload_n hx hb dX7_orderAt_61 rfl (lv_at hl 0 rfl) ?_
          refine va_get (D := D) (ci := 6) (v := .ref a_now) (C := RX7) (T := TX7) (N := 8) hx hb hts (fun w h => mb (iX7 w h)) hown hK hP 0 rfl rfl 0 (by decide) (hts _ (mb tb_270)) (fun _ h9 => h9) rfl dX7_orderAt_62 ?_
          refine va_get (D := D) (ci := 5) (v := .ref a_now_orders) (C := RX6) (T := TX6) (N := 9) hx hb hts (fun w h => mb (iX6 w h)) hown hK hP 1 rfl rfl 8 (by decide) (hts _ (mb tb_173)) (fun _ h9 => h9) rfl dX7_orderAt_65 ?_
          refine va_get (D := D) (ci := 1) (v := .ref a_now_orders_product) (C := RX2) (T := TX2) (N := 10) hx hb hts (fun w h => mb (iX2 w h)) hown hK hP 2 rfl rfl 3 (by decide) (hts _ (mb tb_125)) (fun _ h9 => h9) rfl dX7_orderAt_68 ?_
          refine lv_iload_n hx hb dX7_orderAt_71 rfl (lv_at hl 1 rfl) ?_
          obtain ⟨h10, hf⟩ := ob_d hf
          refine va_iald hx hb hK hP 4 0 rfl rfl h10 dX7_orderAt_72 ?_
          cases hf
          refine vx_ret ?_
          refine W.widen (k := 1) (n := 6) (Nat.le_of_ble_eq_true rfl) (Nat.le_of_ble_eq_true rfl) ?_
          exact W.iret hx hb hr (fun t ht hW => ⟨⟨_, (), rfl, rfl, (ht.trans hHe)⟩, hS.F ht⟩) hS.2.2 dX7_orderAt_73
        · have hf := ineg h9 hf
          by_cases h11 : v2 = 2
          · have hf := ipos h11 hf
            refine lv_tableIn (off := 62) (tgt := 74) hx hb dX7_orderAt_12 (by rw [h11]; decide) (by rw [h11]; decide) (by rw [h11]; rfl) (by decide) ?_
            refine lv_aload_n hx hb dX7_orderAt_74 rfl (lv_at hl 0 rfl) ?_
            refine va_get (D := D) (ci := 6) (v := .ref a_now) (C := RX7) (T := TX7) (N := 8) hx hb hts (fun w h => mb (iX7 w h)) hown hK hP 0 rfl rfl 0 (by decide) (hts _ (mb tb_270)) (fun _ h9 => h9) rfl dX7_orderAt_75 ?_
            refine va_get (D := D) (ci := 5) (v := .ref a_now_orders) (C := RX6) (T := TX6) (N := 9) hx hb hts (fun w h => mb (iX6 w h)) hown hK hP 1 rfl rfl 8 (by decide) (hts _ (mb tb_173)) (fun _ h9 => h9) rfl dX7_orderAt_78 ?_
            refine va_get (D := D) (ci := 1) (v := .ref a_now_orders_open) (C := RX2) (T := TX2) (N := 10) hx hb hts (fun w h => mb (iX2 w h)) hown hK hP 2 rfl rfl 4 (by decide) (hts _ (mb tb_127)) (fun _ h9 => h9) rfl dX7_orderAt_81 ?_
            refine lv_iload_n hx hb dX7_orderAt_84 rfl (lv_at hl 1 rfl) ?_
            obtain ⟨h12, hf⟩ := ob_d hf
            refine va_iald hx hb hK hP 5 0 rfl rfl h12 dX7_orderAt_85 ?_
            cases hf
            refine vx_ret ?_
            refine W.widen (k := 1) (n := 6) (Nat.le_of_ble_eq_true rfl) (Nat.le_of_ble_eq_true rfl) ?_
            exact W.iret hx hb hr (fun t ht hW => ⟨⟨_, (), rfl, rfl, (ht.trans hHe)⟩, hS.F ht⟩) hS.2.2 dX7_orderAt_86
          · have hf := ineg h11 hf
            by_cases h13 : v2 = 3
            · have hf := ipos h13 hf
              refine lv_tableIn (off := 75) (tgt := 87) hx hb dX7_orderAt_12 (by rw [h13]; decide) (by rw [h13]; decide) (by rw [h13]; rfl) (by decide) ?_
              refine lv_aload_n hx hb dX7_orderAt_87 rfl (lv_at hl 0 rfl) ?_
              refine va_get (D := D) (ci := 6) (v := .ref a_now) (C := RX7) (T := TX7) (N := 8) hx hb hts (fun w h => mb (iX7 w h)) hown hK hP 0 rfl rfl 0 (by decide) (hts _ (mb tb_270)) (fun _ h9 => h9) rfl dX7_orderAt_88 ?_
              refine va_get (D := D) (ci := 5) (v := .ref a_now_orders) (C := RX6) (T := TX6) (N := 9) hx hb hts (fun w h => mb (iX6 w h)) hown hK hP 1 rfl rfl 8 (by decide) (hts _ (mb tb_173)) (fun _ h9 => h9) rfl dX7_orderAt_91 ?_
              refine lv_iload_n hx hb dX7_orderAt_94 rfl (lv_at hl 1 rfl) ?_
              obtain ⟨r14, hc15, hf⟩ := ob1 hf
              refine ro_calli (r := r14) (va_runV (As := [.int v1]) (rest := []) ⟨hx, hb, hml, hown, hts⟩ (k_X2_piecesAt l hl0 D cI cJ cZ cS B0 H a_now_orders a_now_orders_customer a_now_orders_product a_now_orders_open a_now_orders_due a_now_orders_life a_now_orders_byDue a_now_orders_had a_now_orders_stamps c_now_orders_count c_now_orders_gifts c_now_orders_had v1 r14 hc15) (cwV 1 hts (gV tb_409 tb_410 tb_411 tb_5 tb_412) rfl rfl rfl (by decide +kernel) ⟨Nat.le_of_ble_eq_true rfl, Nat.le_of_ble_eq_true rfl⟩) ⟨rp_blind, va_recv hK hP (ci := 1) (q0 := 2) rfl rfl, rp_pre (hP.sub [2, 8] rfl) hK (hBn _ _ hS) (hEn _ _ hS)⟩ rfl rfl hl.1 rfl (lv_room (Nat.le_of_ble_eq_true rfl)) dX7_orderAt_95 ⟨Nat.le_of_ble_eq_true rfl, Nat.le_of_ble_eq_true rfl⟩) ?_
              cases hf
              refine vx_ret ?_
              refine W.widen (k := 1) (n := 6) (Nat.le_of_ble_eq_true rfl) (Nat.le_of_ble_eq_true rfl) ?_
              exact W.iret hx hb hr (fun t ht hW => ⟨⟨_, (), rfl, rfl, (ht.trans hHe)⟩, hS.F ht⟩) hS.2.2 dX7_orderAt_98
            · have hf := ineg h13 hf
              by_cases h16 : v2 = 4
              · have hf := ipos h16 hf
                refine lv_tableIn (off := 87) (tgt := 99) hx hb dX7_orderAt_12 (by rw [h16]; decide) (by rw [h16]; decide) (by rw [h16]; rfl) (by decide) ?_
                refine lv_aload_n hx hb dX7_orderAt_99 rfl (lv_at hl 0 rfl) ?_
                refine va_get (D := D) (ci := 6) (v := .ref a_now) (C := RX7) (T := TX7) (N := 8) hx hb hts (fun w h => mb (iX7 w h)) hown hK hP 0 rfl rfl 0 (by decide) (hts _ (mb tb_270)) (fun _ h9 => h9) rfl dX7_orderAt_100 ?_
                refine va_get (D := D) (ci := 5) (v := .ref a_now_orders) (C := RX6) (T := TX6) (N := 9) hx hb hts (fun w h => mb (iX6 w h)) hown hK hP 1 rfl rfl 8 (by decide) (hts _ (mb tb_173)) (fun _ h9 => h9) rfl dX7_orderAt_103 ?_
                refine va_get (D := D) (ci := 1) (v := .ref a_now_orders_due) (C := RX2) (T := TX2) (N := 10) hx hb hts (fun w h => mb (iX2 w h)) hown hK hP 2 rfl rfl 5 (by decide) (hts _ (mb tb_129)) (fun _ h9 => h9) rfl dX7_orderAt_106 ?_
                refine lv_iload_n hx hb dX7_orderAt_109 rfl (lv_at hl 1 rfl) ?_
                obtain ⟨h17, hf⟩ := ob_d hf
                refine va_iald hx hb hK hP 6 0 rfl rfl h17 dX7_orderAt_110 ?_
                cases hf
                refine vx_ret ?_
                refine W.widen (k := 1) (n := 6) (Nat.le_of_ble_eq_true rfl) (Nat.le_of_ble_eq_true rfl) ?_
                exact W.iret hx hb hr (fun t ht hW => ⟨⟨_, (), rfl, rfl, (ht.trans hHe)⟩, hS.F ht⟩) hS.2.2 dX7_orderAt_111
              · have hf := ineg h16 hf
                refine lv_tableOut (tgt := 112) hx hb dX7_orderAt_12 (tsout 4 (by decide) (fun k hk => match k, hk with | 0, _ => h7 | 1, _ => h9 | 2, _ => h11 | 3, _ => h13 | 4, _ => h16 | k + 5, hk => absurd hk (by omega))) (by decide) ?_
                refine lv_aload_n hx hb dX7_orderAt_112 rfl (lv_at hl 0 rfl) ?_
                refine va_get (D := D) (ci := 6) (v := .ref a_now) (C := RX7) (T := TX7) (N := 8) hx hb hts (fun w h => mb (iX7 w h)) hown hK hP 0 rfl rfl 0 (by decide) (hts _ (mb tb_270)) (fun _ h9 => h9) rfl dX7_orderAt_113 ?_
                refine va_get (D := D) (ci := 5) (v := .ref a_now_orders) (C := RX6) (T := TX6) (N := 9) hx hb hts (fun w h => mb (iX6 w h)) hown hK hP 1 rfl rfl 8 (by decide) (hts _ (mb tb_173)) (fun _ h9 => h9) rfl dX7_orderAt_116 ?_
                refine lv_iload_n hx hb dX7_orderAt_119 rfl (lv_at hl 1 rfl) ?_
                obtain ⟨r18, hc19, hf⟩ := ob1 hf
                refine ro_calli (r := r18) (va_runV (As := [.int v1]) (rest := []) ⟨hx, hb, hml, hown, hts⟩ (k_X2_wantedDay l hl0 D cI cJ cZ cS B0 H a_now_orders a_now_orders_customer a_now_orders_product a_now_orders_open a_now_orders_due a_now_orders_life a_now_orders_byDue a_now_orders_had a_now_orders_stamps c_now_orders_count c_now_orders_gifts c_now_orders_due c_now_orders_life v1 r18 hc19) (cwV 1 hts (gV tb_354 tb_355 tb_356 tb_5 tb_357) rfl rfl rfl (by decide +kernel) ⟨Nat.le_of_ble_eq_true rfl, Nat.le_of_ble_eq_true rfl⟩) ⟨rp_blind, va_recv hK hP (ci := 1) (q0 := 2) rfl rfl, rp_pre (hP.sub [2, 6, 7] rfl) hK (hBn _ _ hS) (hEn _ _ hS)⟩ rfl rfl hl.1 rfl (lv_room (Nat.le_of_ble_eq_true rfl)) dX7_orderAt_120 ⟨Nat.le_of_ble_eq_true rfl, Nat.le_of_ble_eq_true rfl⟩) ?_
                cases hf
                refine vx_ret ?_
                refine W.widen (k := 1) (n := 6) (Nat.le_of_ble_eq_true rfl) (Nat.le_of_ble_eq_true rfl) ?_
                exact W.iret hx hb hr (fun t ht hW => ⟨⟨_, (), rfl, rfl, (ht.trans hHe)⟩, hS.F ht⟩) hS.2.2 dX7_orderAt_123
def f_X7_lotsOf_L9_J44 (n1 : Int32) (n2 : Int32) (n3 : Int32) (c_now_lots_count : Int32) (c_now_orders_count : Int32) (c_now_orders_had : Nat → Int32) : Option ((Int32 × Int32) ⊕ Int32) :=
  some (.inl (n2, n3 + 1))
def f_X7_lotsOf_L9 (n1 : Int32) (c_now_lots_count : Int32) (c_now_orders_count : Int32) (c_now_orders_had : Nat → Int32) (n2 : Int32) (n3 : Int32) : Option ((Int32 × Int32) ⊕ Int32) :=
  (if c_now_lots_count ≤ n3 then some (.inr n2)
  else bnd1 (f_X2_piecesOf n1 n3 c_now_orders_count c_now_orders_had) (fun r5 =>
  ((if r5 ≤ 0 then f_X7_lotsOf_L9_J44 n1 n2 n3 c_now_lots_count c_now_orders_count c_now_orders_had
  else f_X7_lotsOf_L9_J44 n1 (n2 ||| (1 <<< (n3 &&& 31))) n3 c_now_lots_count c_now_orders_count c_now_orders_had))))
def f_X7_lotsOf (v1 : Int32) (c_now_lots_count : Int32) (c_now_orders_count : Int32) (c_now_orders_had : Nat → Int32) : Option ((Except String Int32)) :=
  bnd1 (f_X7_needOrder v1 c_now_orders_count) (fun r1 => mx r1 (fun E3 => some (.error E3)) (fun _ =>
  ((bnd1 (loop (fun z => f_X7_lotsOf_L9 v1 c_now_lots_count c_now_orders_count c_now_orders_had z.1 z.2) fu (0, 0)) fun m9 =>
  some (.ok m9)))))
set_option maxHeartbeats 4000000 in
set_option maxRecDepth 100000 in
theorem k_X7_lotsOf (l : Launch) (hl0 : l.stackTraces = false) (D : va_G) (cI cJ cZ cS : ClassId) (B0 : Nat) (H0 : Heap) (a0 a_now a_past a_plan a_picker a_rest a_packed a_now_items a_now_books a_now_terms a_now_shelves a_now_lots a_now_orders a_now_lots_product a_now_lots_last a_now_lots_cost a_now_lots_state a_now_lots_byLast a_now_orders_customer a_now_orders_product a_now_orders_open a_now_orders_due a_now_orders_life a_now_orders_byDue a_now_orders_had a_now_orders_stamps : Nat) (c_acts : Int32) (c_nextSlot : Int32) (c_now_today : Int32) (c_now_products : Int32) (c_now_itemCount : Int32) (c_now_lots_count : Int32) (c_now_orders_count : Int32) (c_now_orders_gifts : Int32) (c_now_orders_had : Nat → Int32) (v1 : Int32) (r9 : Except String Int32)  (hf : f_X7_lotsOf v1 c_now_lots_count c_now_orders_count c_now_orders_had = some r9) : vx_Met l yX7_lotsOf (wz yX7_lotsOf cX7_lotsOf 4 (some .int)) ({ frames := 7, cells := 1, slots := 6, locals := 111 }) (va_Pc [.ref a0, .int v1] (rp D cI cJ cZ cS B0 [oX7 a0 a_now a_past c_acts c_nextSlot a_plan a_picker a_rest a_packed, oX6 a_now c_now_today c_now_products c_now_itemCount a_now_items a_now_books a_now_terms a_now_shelves a_now_lots a_now_orders, oX1 a_now_lots c_now_lots_count a_now_lots_product a_now_lots_last a_now_lots_cost a_now_lots_state a_now_lots_byLast, oX2 a_now_orders c_now_orders_count c_now_orders_gifts a_now_orders_customer a_now_orders_product a_now_orders_open a_now_orders_due a_now_orders_life a_now_orders_byDue a_now_orders_had a_now_orders_stamps, rI cI a_now_orders_had 960 c_now_orders_had] H0)) (va_Qi (fun (r2 : Int32) (_ : Unit) => r9 = .ok r2) (fun _ t => t.heap = H0) (fun q => H0.size ≤ q)) (vx_X (fun (_ : Unit) => True) (fun E _ _ => r9 = .error E) (fun q => H0.size ≤ q)) 1 6 (fun q => H0.size ≤ q) := by
  refine vx_ofW (cc := cX7_lotsOf) (maxL := 4) (ret := (some .int)) (by decide +kernel) rfl ?_
  intro p e s m args below meth c s₁ B hml hno hv
  obtain ⟨rfl, hH, hP, hK, hB0, hE⟩ := hv
  subst hH
  have hx := B.exec
  have hb := B.bytes
  have hr := B.returns
  have hts := atoms_spec (ws := (wz yX7_lotsOf cX7_lotsOf 4 (some .int))) B.pre
  have hown : s.vm.findClass RX7 = some m.cls := findClass_of_methodNamed B.named
  have hlocks := B.notSynchronized
  have hAB : ∀ q : Nat, s.heap.size ≤ q → B0 ≤ q := fun q h => Nat.le_trans hB0 h
  have hA : ∀ q : Nat, s.heap.size ≤ q → s.heap.size ≤ q := fun _ h => h
  have hS : va_S (fun q => s.heap.size ≤ q) s.heap s.heap [] := va_S.rf
  have hBn := fun (H : Heap) (locs : List Loc) (h : va_S (fun q => s.heap.size ≤ q) s.heap H locs) => Nat.le_trans hB0 h.1
  have hEn := fun (H : Heap) (locs : List Loc) (h : va_S (fun q => s.heap.size ≤ q) s.heap H locs) => gE_now hE h hAB
  have hl := lv_entry ([.ref a0, .int v1]) (n := 4) (Nat.le_of_ble_eq_true rfl)
  rw [lg_entry_eq]
  generalize (lg_sl ([.ref a0, .int v1]) ++ List.replicate (4 - (lg_sl ([.ref a0, .int v1])).length) Slot.unset).toArray = ls at hl ⊢
  have hl : lv_has ls 4 [(0, .ref a0), (1, .int v1)] := hl
  obtain ⟨H, hHe⟩ : ∃ H : Heap, H = s.heap := ⟨_, rfl⟩
  have hP : va_P D vwCl [oX7 a0 a_now a_past c_acts c_nextSlot a_plan a_picker a_rest a_packed, oX6 a_now c_now_today c_now_products c_now_itemCount a_now_items a_now_books a_now_terms a_now_shelves a_now_lots a_now_orders, oX1 a_now_lots c_now_lots_count a_now_lots_product a_now_lots_last a_now_lots_cost a_now_lots_state a_now_lots_byLast, oX2 a_now_orders c_now_orders_count c_now_orders_gifts a_now_orders_customer a_now_orders_product a_now_orders_open a_now_orders_due a_now_orders_life a_now_orders_byDue a_now_orders_had a_now_orders_stamps, rI cI a_now_orders_had 960 c_now_orders_had] H := by rw [hHe]; exact hP
  have hS : va_S (fun q => s.heap.size ≤ q) s.heap H [] := by rw [hHe]; exact hS
  refine W_heq hHe ?_
  unfold f_X7_lotsOf at hf
  refine gen_go (fun WW hWW => ?_)
  have hL9 : ∀ (n : Nat) (n1 : Int32) (n2 : Int32) (n3 : Int32) (e2 : Int32), loop (fun z => f_X7_lotsOf_L9 n1 c_now_lots_count c_now_orders_count c_now_orders_had z.1 z.2) n (n2, n3) = some e2 → (∀ (ls : Array Slot), lv_has ls 4 [(2, .int e2)] → WW (F0 m 50 ls [])) → ∀ (ls : Array Slot), lv_has ls 4 [(0, .ref a0), (1, .int n1), (2, .int n2), (3, .int n3)] → WW (F0 m 9 ls []) := by
    intro n
    induction n with
    | zero =>
      intro n1 n2 n3 e2 hlp
      exact absurd hlp (by simp [loop])
    | succ n ih =>
      intro n1 n2 n3 e2 hlp K ls hl
      obtain ⟨x9, hf, hlp⟩ := loop_s hlp
      have hf : f_X7_lotsOf_L9 n1 c_now_lots_count c_now_orders_count c_now_orders_had n2 n3 = some x9 := hf
      unfold f_X7_lotsOf_L9 at hf
      have hJ44 : ∀ (n2 : Int32) (n3 : Int32), f_X7_lotsOf_L9_J44 n1 n2 n3 c_now_lots_count c_now_orders_count c_now_orders_had = some x9 → ∀ (ls : Array Slot), lv_has ls 4 [(0, .ref a0), (1, .int n1), (2, .int n2), (3, .int n3)] → WW (F0 m 44 ls []) := by
        intro n2 n3 hf ls hl
        unfold f_X7_lotsOf_L9_J44 at hf
        refine (hWW _).mpr ?_
        refine lv_iinc (v := (n3 + 1)) (lv' := [(3, .int (n3 + 1)), (0, .ref a0), (1, .int n1), (2, .int n2)]) hx hb dX7_lotsOf_44 hl (k := 3) rfl rfl (by decide) rfl (fun ls hl => ?_)
        refine lv_goto (tgt := 9) hx hb dX7_lotsOf_47 (by decide) ?_
        obtain rfl := Option.some.inj hf
        exact (hWW _).mp (ih _ _ _ _ hlp K ls (lv_sub hl [1, 2, 3, 0] rfl))
      refine (hWW _).mpr ?_
      refine lv_iload_n hx hb dX7_lotsOf_9 rfl (lv_at hl 3 rfl) ?_
      refine lv_aload_n hx hb dX7_lotsOf_10 rfl (lv_at hl 0 rfl) ?_
      refine va_get (D := D) (ci := 6) (v := .ref a_now) (C := RX7) (T := TX7) (N := 8) hx hb hts (fun w h => mb (iX7 w h)) hown hK hP 0 rfl rfl 0 (by decide) (hts _ (mb tb_270)) (fun _ h9 => h9) rfl dX7_lotsOf_11 ?_
      refine va_get (D := D) (ci := 5) (v := .ref a_now_lots) (C := RX6) (T := TX6) (N := 9) hx hb hts (fun w h => mb (iX6 w h)) hown hK hP 1 rfl rfl 7 (by decide) (hts _ (mb tb_171)) (fun _ h9 => h9) rfl dX7_lotsOf_14 ?_
      refine va_get (D := D) (ci := 0) (v := .int c_now_lots_count) (C := RX1) (T := TX1) (N := 6) hx hb hts (fun w h => mb (iX1 w h)) hown hK hP 2 rfl rfl 0 (by decide) (hts _ (mb tb_89)) (fun _ h9 => h9) rfl dX7_lotsOf_17 ?_
      refine lv_icmp_ge (tgt := 50) hx hb dX7_lotsOf_20 (by decide) (fun h4 => ?_) (fun h4 => ?_)
      · have hf := ipos h4 hf
        obtain rfl := Option.some.inj hf
        cases lpx_r hlp
        exact (hWW _).mp (K ls (lv_sub hl [2] rfl))
      · have hf := ineg h4 hf
        refine lv_aload_n hx hb dX7_lotsOf_23 rfl (lv_at hl 0 rfl) ?_
        refine va_get (D := D) (ci := 6) (v := .ref a_now) (C := RX7) (T := TX7) (N := 8) hx hb hts (fun w h => mb (iX7 w h)) hown hK hP 0 rfl rfl 0 (by decide) (hts _ (mb tb_270)) (fun _ h9 => h9) rfl dX7_lotsOf_24 ?_
        refine va_get (D := D) (ci := 5) (v := .ref a_now_orders) (C := RX6) (T := TX6) (N := 9) hx hb hts (fun w h => mb (iX6 w h)) hown hK hP 1 rfl rfl 8 (by decide) (hts _ (mb tb_173)) (fun _ h9 => h9) rfl dX7_lotsOf_27 ?_
        refine lv_iload_n hx hb dX7_lotsOf_30 rfl (lv_at hl 1 rfl) ?_
        refine lv_iload_n hx hb dX7_lotsOf_31 rfl (lv_at hl 3 rfl) ?_
        obtain ⟨r5, hc6, hf⟩ := ob1 hf
        refine ro_calli (r := r5) (va_runV (As := [.int n1, .int n3]) (rest := []) ⟨hx, hb, hml, hown, hts⟩ (k_X2_piecesOf l hl0 D cI cJ cZ cS B0 H a_now_orders a_now_orders_customer a_now_orders_product a_now_orders_open a_now_orders_due a_now_orders_life a_now_orders_byDue a_now_orders_had a_now_orders_stamps c_now_orders_count c_now_orders_gifts c_now_orders_had n1 n3 r5 hc6) (cwV 2 hts (gV tb_747 tb_414 tb_415 tb_5 tb_416) rfl rfl rfl (by decide +kernel) ⟨Nat.le_of_ble_eq_true rfl, Nat.le_of_ble_eq_true rfl⟩) ⟨rp_blind, va_recv hK hP (ci := 1) (q0 := 3) rfl rfl, rp_pre (hP.sub [3, 4] rfl) hK (hBn _ _ hS) (hEn _ _ hS)⟩ rfl rfl hl.1 rfl (lv_room (Nat.le_of_ble_eq_true rfl)) dX7_lotsOf_32 ⟨Nat.le_of_ble_eq_true rfl, Nat.le_of_ble_eq_true rfl⟩) ?_
        refine lv_if_le (tgt := 44) hx hb dX7_lotsOf_35 (by decide) (fun h7 => ?_) (fun h7 => ?_)
        · have hf := ipos h7 hf
          exact (hWW _).mp (hJ44 _ _ hf ls (lv_sub hl [0, 1, 2, 3] rfl))
        · have hf := ineg h7 hf
          refine lv_iload_n hx hb dX7_lotsOf_38 rfl (lv_at hl 2 rfl) ?_
          refine lv_iconst (v := 1) hx hb dX7_lotsOf_39 (by decide) ?_
          refine lv_iload_n hx hb dX7_lotsOf_40 rfl (lv_at hl 3 rfl) ?_
          refine lv_ishl hx hb dX7_lotsOf_41 ?_
          refine lv_ior hx hb dX7_lotsOf_42 ?_
          refine lv_istore_n (lv' := [(2, .int (n2 ||| (1 <<< (n3 &&& 31)))), (0, .ref a0), (1, .int n1), (3, .int n3)]) hx hb dX7_lotsOf_43 rfl hl (by decide) rfl (fun ls hl => ?_)
          exact (hWW _).mp (hJ44 _ _ hf ls (lv_sub hl [1, 2, 0, 3] rfl))
  refine (hWW _).mpr ?_
  refine lv_aload_n hx hb dX7_lotsOf_0 rfl (lv_at hl 0 rfl) ?_
  refine lv_iload_n hx hb dX7_lotsOf_1 rfl (lv_at hl 1 rfl) ?_
  obtain ⟨r1, hc2, hf⟩ := ob1 hf
  refine rx_callv (r9 := r1) (vx_runV (As := [.int v1]) (rest := []) ⟨hx, hb, hml, hown, hts⟩ (k_X7_needOrder l hl0 D cI cJ cZ cS B0 H a0 a_now a_past a_plan a_picker a_rest a_packed a_now_items a_now_books a_now_terms a_now_shelves a_now_lots a_now_orders a_now_orders_customer a_now_orders_product a_now_orders_open a_now_orders_due a_now_orders_life a_now_orders_byDue a_now_orders_had a_now_orders_stamps c_acts c_nextSlot c_now_today c_now_products c_now_itemCount c_now_orders_count c_now_orders_gifts v1 r1 hc2) (cwV 1 hts (gV tb_837 tb_839 ts_17 tb_1 tb_840) rfl rfl rfl (by decide +kernel) ⟨Nat.le_of_ble_eq_true rfl, Nat.le_of_ble_eq_true rfl⟩) ⟨rp_blind, va_recv hK hP (ci := 6) (q0 := 0) rfl rfl, rp_pre (hP.sub [0, 1, 3] rfl) hK (hBn _ _ hS) (hEn _ _ hS)⟩ rfl rfl hl.1 rfl (lv_room (Nat.le_of_ble_eq_true rfl)) dX7_lotsOf_2 ⟨Nat.le_of_ble_eq_true rfl, Nat.le_of_ble_eq_true rfl⟩) hS hA (fun E3 ce q9 H1 locs1 hE9 hz9 hk9 hS hq9 hv9 hcl9 => ?_) (fun hr9 => ?_)
  · subst hE9
    have hf := mx_e hf
    cases hf
    exact vx_out (fun x hx => (hno x hx).elim) hlocks hq9 hv9 hcl9 (fun t ht hal => ⟨(), trivial, rfl, hS.F ht⟩) hS.2.2 (Nat.le_of_ble_eq_true rfl) (Nat.le_of_ble_eq_true rfl)
  · subst hr9
    have hf := mx_o hf
    refine lv_iconst (v := 0) hx hb dX7_lotsOf_5 (by decide) ?_
    refine lv_istore_n (lv' := [(2, .int 0), (0, .ref a0), (1, .int v1)]) hx hb dX7_lotsOf_6 rfl hl (by decide) rfl (fun ls hl => ?_)
    refine lv_iconst (v := 0) hx hb dX7_lotsOf_7 (by decide) ?_
    refine lv_istore_n (lv' := [(3, .int 0), (2, .int 0), (0, .ref a0), (1, .int v1)]) hx hb dX7_lotsOf_8 rfl hl (by decide) rfl (fun ls hl => ?_)
    obtain ⟨m9, hc8, hf⟩ := ob1 hf
    refine (hWW _).mp (hL9 fu _ _ _ _ hc8 (fun ls hl => ?_) ls (lv_sub hl [2, 3, 1, 0] rfl))
    · refine (hWW _).mpr ?_
      refine lv_iload_n hx hb dX7_lotsOf_50 rfl (lv_at hl 0 rfl) ?_
      cases hf
      refine vx_ret ?_
      refine W.widen (k := 1) (n := 6) (Nat.le_of_ble_eq_true rfl) (Nat.le_of_ble_eq_true rfl) ?_
      exact W.iret hx hb hr (fun t ht hW => ⟨⟨_, (), rfl, rfl, (ht.trans hHe)⟩, hS.F ht⟩) hS.2.2 dX7_lotsOf_51
def f_X7_orderCount (c_now_orders_count : Int32) : Option (Int32) :=
  some c_now_orders_count
set_option maxHeartbeats 4000000 in
set_option maxRecDepth 100000 in
theorem k_X7_orderCount (l : Launch) (hl0 : l.stackTraces = false) (D : va_G) (cI cJ cZ cS : ClassId) (B0 : Nat) (H0 : Heap) (a0 a_now a_past a_plan a_picker a_rest a_packed a_now_items a_now_books a_now_terms a_now_shelves a_now_lots a_now_orders a_now_orders_customer a_now_orders_product a_now_orders_open a_now_orders_due a_now_orders_life a_now_orders_byDue a_now_orders_had a_now_orders_stamps : Nat) (c_acts : Int32) (c_nextSlot : Int32) (c_now_today : Int32) (c_now_products : Int32) (c_now_itemCount : Int32) (c_now_orders_count : Int32) (c_now_orders_gifts : Int32) (r9 : Int32)  (hf : f_X7_orderCount c_now_orders_count = some r9) : Met l yX7_orderCount (wz yX7_orderCount cX7_orderCount 1 (some .int)) ({ frames := 0, cells := 0, slots := 0, locals := 0 }) (va_Pc [.ref a0] (rp D cI cJ cZ cS B0 [oX7 a0 a_now a_past c_acts c_nextSlot a_plan a_picker a_rest a_packed, oX6 a_now c_now_today c_now_products c_now_itemCount a_now_items a_now_books a_now_terms a_now_shelves a_now_lots a_now_orders, oX2 a_now_orders c_now_orders_count c_now_orders_gifts a_now_orders_customer a_now_orders_product a_now_orders_open a_now_orders_due a_now_orders_life a_now_orders_byDue a_now_orders_had a_now_orders_stamps] H0)) (va_Qi (fun (r2 : Int32) (_ : Unit) => r2 = r9) (fun _ t => t.heap = H0) (fun q => H0.size ≤ q)) 0 0 (fun q => H0.size ≤ q) := by
  refine Met.ofW (cc := cX7_orderCount) (maxL := 1) (ret := (some .int)) (by decide) rfl ?_
  intro p e s m args below meth c s₁ B hml hv
  obtain ⟨rfl, hH, hP, hK, hB0, hE⟩ := hv
  subst hH
  have hx := B.exec
  have hb := B.bytes
  have hr := B.returns
  have hts := atoms_spec (ws := (wz yX7_orderCount cX7_orderCount 1 (some .int))) B.pre
  have hown : s.vm.findClass RX7 = some m.cls := findClass_of_methodNamed B.named
  have hlocks := B.notSynchronized
  have hAB : ∀ q : Nat, s.heap.size ≤ q → B0 ≤ q := fun q h => Nat.le_trans hB0 h
  have hA : ∀ q : Nat, s.heap.size ≤ q → s.heap.size ≤ q := fun _ h => h
  have hS : va_S (fun q => s.heap.size ≤ q) s.heap s.heap [] := va_S.rf
  have hBn := fun (H : Heap) (locs : List Loc) (h : va_S (fun q => s.heap.size ≤ q) s.heap H locs) => Nat.le_trans hB0 h.1
  have hEn := fun (H : Heap) (locs : List Loc) (h : va_S (fun q => s.heap.size ≤ q) s.heap H locs) => gE_now hE h hAB
  have hl := lv_entry ([.ref a0]) (n := 1) (Nat.le_of_ble_eq_true rfl)
  rw [lg_entry_eq]
  generalize (lg_sl ([.ref a0]) ++ List.replicate (1 - (lg_sl ([.ref a0])).length) Slot.unset).toArray = ls at hl ⊢
  have hl : lv_has ls 1 [(0, .ref a0)] := hl
  obtain ⟨H, hHe⟩ : ∃ H : Heap, H = s.heap := ⟨_, rfl⟩
  have hP : va_P D vwCl [oX7 a0 a_now a_past c_acts c_nextSlot a_plan a_picker a_rest a_packed, oX6 a_now c_now_today c_now_products c_now_itemCount a_now_items a_now_books a_now_terms a_now_shelves a_now_lots a_now_orders, oX2 a_now_orders c_now_orders_count c_now_orders_gifts a_now_orders_customer a_now_orders_product a_now_orders_open a_now_orders_due a_now_orders_life a_now_orders_byDue a_now_orders_had a_now_orders_stamps] H := by rw [hHe]; exact hP
  have hS : va_S (fun q => s.heap.size ≤ q) s.heap H [] := by rw [hHe]; exact hS
  refine W_heq hHe ?_
  unfold f_X7_orderCount at hf
  refine lv_aload_n hx hb dX7_orderCount_0 rfl (lv_at hl 0 rfl) ?_
  refine va_get (D := D) (ci := 6) (v := .ref a_now) (C := RX7) (T := TX7) (N := 8) hx hb hts (fun w h => mb (iX7 w h)) hown hK hP 0 rfl rfl 0 (by decide) (hts _ (mb tb_270)) (fun _ h9 => h9) rfl dX7_orderCount_1 ?_
  refine va_get (D := D) (ci := 5) (v := .ref a_now_orders) (C := RX6) (T := TX6) (N := 9) hx hb hts (fun w h => mb (iX6 w h)) hown hK hP 1 rfl rfl 8 (by decide) (hts _ (mb tb_173)) (fun _ h9 => h9) rfl dX7_orderCount_4 ?_
  refine va_get (D := D) (ci := 1) (v := .int c_now_orders_count) (C := RX2) (T := TX2) (N := 10) hx hb hts (fun w h => mb (iX2 w h)) hown hK hP 2 rfl rfl 0 (by decide) (hts _ (mb tb_120)) (fun _ h9 => h9) rfl dX7_orderCount_7 ?_
  cases hf
  exact W.iret hx hb hr (fun t ht hW => ⟨⟨_, (), rfl, rfl, (ht.trans hHe)⟩, hS.F ht⟩) hS.2.2 dX7_orderCount_10
def f_X7_serve_L35_J182 (n1 : Int32) (n2 : Int32) (n3 : Int32) (n4 : Int32) (n5 : Int32) (c_now_shelves_places : Int32) (c_now_shelves_picked : Int64) (c_now_shelves_lot : Nat → Int32) (c_now_shelves_pieces : Nat → Int32) (c_now_shelves_mark : Nat → Int32) (c_now_shelves_byDistance : Nat → Int32) (c_now_lots_count : Int32) (c_now_lots_product : Nat → Int32) (c_now_lots_last : Nat → Int32) (c_now_lots_state : Nat → Int32) (c_now_lots_byLast : Nat → Int32) (c_now_orders_count : Int32) (c_now_orders_gifts : Int32) (c_now_orders_product : Nat → Int32) (c_now_orders_open : Nat → Int32) (c_now_orders_due : Nat → Int32) (c_now_orders_life : Nat → Int32) (c_now_orders_had : Nat → Int32) (c_now_orders_stamps : Nat → Int32) (c_rest : Nat → Int32) : Option ((Int32 × Int32 × Int64 × (Nat → Int32) × (Nat → Int32) × (Nat → Int32) × Int32 × (Nat → Int32) × (Nat → Int32) × (Nat → Int32) × (Nat → Int32)) ⊕ (Int32 × Int64 × (Nat → Int32) × (Nat → Int32) × (Nat → Int32) × Int32 × (Nat → Int32) × (Nat → Int32) × (Nat → Int32) × (Nat → Int32))) :=
  some (.inl (n4, n5 + 1, c_now_shelves_picked, c_now_shelves_lot, c_now_shelves_pieces, c_now_shelves_mark, c_now_orders_gifts, c_now_orders_open, c_now_orders_had, c_now_orders_stamps, c_rest))
def f_X7_serve_L35 (n1 : Int32) (n2 : Int32) (n3 : Int32) (c_now_shelves_places : Int32) (c_now_shelves_byDistance : Nat → Int32) (c_now_lots_count : Int32) (c_now_lots_product : Nat → Int32) (c_now_lots_last : Nat → Int32) (c_now_lots_state : Nat → Int32) (c_now_lots_byLast : Nat → Int32) (c_now_orders_count : Int32) (c_now_orders_product : Nat → Int32) (c_now_orders_due : Nat → Int32) (c_now_orders_life : Nat → Int32) (n4 : Int32) (n5 : Int32) (c_now_shelves_picked : Int64) (c_now_shelves_lot : Nat → Int32) (c_now_shelves_pieces : Nat → Int32) (c_now_shelves_mark : Nat → Int32) (c_now_orders_gifts : Int32) (c_now_orders_open : Nat → Int32) (c_now_orders_had : Nat → Int32) (c_now_orders_stamps : Nat → Int32) (c_rest : Nat → Int32) : Option ((Int32 × Int32 × Int64 × (Nat → Int32) × (Nat → Int32) × (Nat → Int32) × Int32 × (Nat → Int32) × (Nat → Int32) × (Nat → Int32) × (Nat → Int32)) ⊕ (Int32 × Int64 × (Nat → Int32) × (Nat → Int32) × (Nat → Int32) × Int32 × (Nat → Int32) × (Nat → Int32) × (Nat → Int32) × (Nat → Int32))) :=
  (if c_now_lots_count ≤ n5 then some (.inr (n4, c_now_shelves_picked, c_now_shelves_lot, c_now_shelves_pieces, c_now_shelves_mark, c_now_orders_gifts, c_now_orders_open, c_now_orders_had, c_now_orders_stamps, c_rest))
  else (if n3 ≤ n4 then some (.inr (n4, c_now_shelves_picked, c_now_shelves_lot, c_now_shelves_pieces, c_now_shelves_mark, c_now_orders_gifts, c_now_orders_open, c_now_orders_had, c_now_orders_stamps, c_rest))
  else gd n5 24 (gd n1 40 (bnd1 (f_X2_wantedDay n1 c_now_orders_count c_now_orders_due c_now_orders_life) (fun r9 =>
  (bnd1 (f_X1_isFit (c_now_lots_byLast n5.toNatClampNeg) (c_now_orders_product n1.toNatClampNeg) r9 c_now_lots_count c_now_lots_product c_now_lots_last c_now_lots_state) (fun r11 =>
  ((if r11 = 0 then f_X7_serve_L35_J182 n1 n2 n3 n4 n5 c_now_shelves_places c_now_shelves_picked c_now_shelves_lot c_now_shelves_pieces c_now_shelves_mark c_now_shelves_byDistance c_now_lots_count c_now_lots_product c_now_lots_last c_now_lots_state c_now_lots_byLast c_now_orders_count c_now_orders_gifts c_now_orders_product c_now_orders_open c_now_orders_due c_now_orders_life c_now_orders_had c_now_orders_stamps c_rest
  else gd (c_now_lots_byLast n5.toNatClampNeg) 24 (gd (c_now_lots_byLast n5.toNatClampNeg) 24 (gd (c_now_lots_byLast n5.toNatClampNeg) 24 ((if n2 = 0 then f_X7_serve_L35_J182 n1 n2 n3 (n4 + (if (c_rest (c_now_lots_byLast n5.toNatClampNeg).toNatClampNeg) < (n3 - n4) then (c_rest (c_now_lots_byLast n5.toNatClampNeg).toNatClampNeg) else (n3 - n4))) n5 c_now_shelves_places c_now_shelves_picked c_now_shelves_lot c_now_shelves_pieces c_now_shelves_mark c_now_shelves_byDistance c_now_lots_count c_now_lots_product c_now_lots_last c_now_lots_state c_now_lots_byLast c_now_orders_count c_now_orders_gifts c_now_orders_product c_now_orders_open c_now_orders_due c_now_orders_life c_now_orders_had c_now_orders_stamps (upd c_rest (c_now_lots_byLast n5.toNatClampNeg).toNatClampNeg ((c_rest (c_now_lots_byLast n5.toNatClampNeg).toNatClampNeg) - (if (c_rest (c_now_lots_byLast n5.toNatClampNeg).toNatClampNeg) < (n3 - n4) then (c_rest (c_now_lots_byLast n5.toNatClampNeg).toNatClampNeg) else (n3 - n4))))
  else (if (if (c_rest (c_now_lots_byLast n5.toNatClampNeg).toNatClampNeg) < (n3 - n4) then (c_rest (c_now_lots_byLast n5.toNatClampNeg).toNatClampNeg) else (n3 - n4)) ≤ 0 then f_X7_serve_L35_J182 n1 n2 n3 (n4 + (if (c_rest (c_now_lots_byLast n5.toNatClampNeg).toNatClampNeg) < (n3 - n4) then (c_rest (c_now_lots_byLast n5.toNatClampNeg).toNatClampNeg) else (n3 - n4))) n5 c_now_shelves_places c_now_shelves_picked c_now_shelves_lot c_now_shelves_pieces c_now_shelves_mark c_now_shelves_byDistance c_now_lots_count c_now_lots_product c_now_lots_last c_now_lots_state c_now_lots_byLast c_now_orders_count c_now_orders_gifts c_now_orders_product c_now_orders_open c_now_orders_due c_now_orders_life c_now_orders_had c_now_orders_stamps (upd c_rest (c_now_lots_byLast n5.toNatClampNeg).toNatClampNeg ((c_rest (c_now_lots_byLast n5.toNatClampNeg).toNatClampNeg) - (if (c_rest (c_now_lots_byLast n5.toNatClampNeg).toNatClampNeg) < (n3 - n4) then (c_rest (c_now_lots_byLast n5.toNatClampNeg).toNatClampNeg) else (n3 - n4))))
  else bnd4 (f_X5_pick (c_now_lots_byLast n5.toNatClampNeg) (if (c_rest (c_now_lots_byLast n5.toNatClampNeg).toNatClampNeg) < (n3 - n4) then (c_rest (c_now_lots_byLast n5.toNatClampNeg).toNatClampNeg) else (n3 - n4)) c_now_shelves_places c_now_shelves_picked c_now_shelves_lot c_now_shelves_pieces c_now_shelves_mark c_now_shelves_byDistance) (fun o21 o22 o23 o24 =>
  (bnd4 (f_X2_give n1 (c_now_lots_byLast n5.toNatClampNeg) (if (c_rest (c_now_lots_byLast n5.toNatClampNeg).toNatClampNeg) < (n3 - n4) then (c_rest (c_now_lots_byLast n5.toNatClampNeg).toNatClampNeg) else (n3 - n4)) c_now_orders_count c_now_orders_gifts c_now_orders_open c_now_orders_had c_now_orders_stamps) (fun o27 o28 o29 o30 =>
  (f_X7_serve_L35_J182 n1 n2 n3 (n4 + (if (c_rest (c_now_lots_byLast n5.toNatClampNeg).toNatClampNeg) < (n3 - n4) then (c_rest (c_now_lots_byLast n5.toNatClampNeg).toNatClampNeg) else (n3 - n4))) n5 c_now_shelves_places o21 o22 o23 o24 c_now_shelves_byDistance c_now_lots_count c_now_lots_product c_now_lots_last c_now_lots_state c_now_lots_byLast c_now_orders_count o27 c_now_orders_product o28 c_now_orders_due c_now_orders_life o29 o30 (upd c_rest (c_now_lots_byLast n5.toNatClampNeg).toNatClampNeg ((c_rest (c_now_lots_byLast n5.toNatClampNeg).toNatClampNeg) - (if (c_rest (c_now_lots_byLast n5.toNatClampNeg).toNatClampNeg) < (n3 - n4) then (c_rest (c_now_lots_byLast n5.toNatClampNeg).toNatClampNeg) else (n3 - n4))))))))))))))))))))))
def f_X7_serve (v1 : Int32) (v2 : Int32) (c_now_shelves_places : Int32) (c_now_shelves_picked : Int64) (c_now_shelves_lot : Nat → Int32) (c_now_shelves_pieces : Nat → Int32) (c_now_shelves_mark : Nat → Int32) (c_now_shelves_byDistance : Nat → Int32) (c_now_lots_count : Int32) (c_now_lots_product : Nat → Int32) (c_now_lots_last : Nat → Int32) (c_now_lots_state : Nat → Int32) (c_now_lots_byLast : Nat → Int32) (c_now_orders_count : Int32) (c_now_orders_gifts : Int32) (c_now_orders_product : Nat → Int32) (c_now_orders_open : Nat → Int32) (c_now_orders_due : Nat → Int32) (c_now_orders_life : Nat → Int32) (c_now_orders_had : Nat → Int32) (c_now_orders_stamps : Nat → Int32) (c_rest : Nat → Int32) : Option (Int32 × Int64 × (Nat → Int32) × (Nat → Int32) × (Nat → Int32) × Int32 × (Nat → Int32) × (Nat → Int32) × (Nat → Int32) × (Nat → Int32)) :=
  bnd1 (f_X2_exists v1 c_now_orders_count) (fun r1 =>
  ((if r1 = 0 then some (0, c_now_shelves_picked, c_now_shelves_lot, c_now_shelves_pieces, c_now_shelves_mark, c_now_orders_gifts, c_now_orders_open, c_now_orders_had, c_now_orders_stamps, c_rest)
  else gd v1 40 ((bnd10 (loop (fun z => f_X7_serve_L35 v1 v2 (c_now_orders_open v1.toNatClampNeg) c_now_shelves_places c_now_shelves_byDistance c_now_lots_count c_now_lots_product c_now_lots_last c_now_lots_state c_now_lots_byLast c_now_orders_count c_now_orders_product c_now_orders_due c_now_orders_life z.1 z.2.1 z.2.2.1 z.2.2.2.1 z.2.2.2.2.1 z.2.2.2.2.2.1 z.2.2.2.2.2.2.1 z.2.2.2.2.2.2.2.1 z.2.2.2.2.2.2.2.2.1 z.2.2.2.2.2.2.2.2.2.1 z.2.2.2.2.2.2.2.2.2.2) fu (0, 0, c_now_shelves_picked, c_now_shelves_lot, c_now_shelves_pieces, c_now_shelves_mark, c_now_orders_gifts, c_now_orders_open, c_now_orders_had, c_now_orders_stamps, c_rest)) fun m32 c33 c34 c35 c36 c37 c38 c39 c40 c41 =>
  some (m32, c33, c34, c35, c36, c37, c38, c39, c40, c41))))))
set_option maxHeartbeats 4000000 in
set_option maxRecDepth 100000 in
theorem k_X7_serve (l : Launch) (hl0 : l.stackTraces = false) (D : va_G) (cI cJ cZ cS : ClassId) (B0 : Nat) (sz : Nat) (a0 a_now a_past a_plan a_picker a_rest a_packed a_now_items a_now_books a_now_terms a_now_shelves a_now_lots a_now_orders a_now_shelves_lot a_now_shelves_pieces a_now_shelves_mark a_now_shelves_byDistance a_now_lots_product a_now_lots_last a_now_lots_cost a_now_lots_state a_now_lots_byLast a_now_orders_customer a_now_orders_product a_now_orders_open a_now_orders_due a_now_orders_life a_now_orders_byDue a_now_orders_had a_now_orders_stamps : Nat) (c_acts : Int32) (c_nextSlot : Int32) (c_now_today : Int32) (c_now_products : Int32) (c_now_itemCount : Int32) (c_now_shelves_lanes : Int32) (c_now_shelves_positions : Int32) (c_now_shelves_room : Int32) (c_now_shelves_gap : Int32) (c_now_shelves_places : Int32) (c_now_shelves_picked : Int64) (c_now_shelves_lot : Nat → Int32) (c_now_shelves_pieces : Nat → Int32) (c_now_shelves_mark : Nat → Int32) (c_now_shelves_byDistance : Nat → Int32) (c_now_lots_count : Int32) (c_now_lots_product : Nat → Int32) (c_now_lots_last : Nat → Int32) (c_now_lots_state : Nat → Int32) (c_now_lots_byLast : Nat → Int32) (c_now_orders_count : Int32) (c_now_orders_gifts : Int32) (c_now_orders_product : Nat → Int32) (c_now_orders_open : Nat → Int32) (c_now_orders_due : Nat → Int32) (c_now_orders_life : Nat → Int32) (c_now_orders_had : Nat → Int32) (c_now_orders_stamps : Nat → Int32) (c_rest : Nat → Int32) (v1 : Int32) (v2 : Int32) (r9 : Int32) (oc_now_shelves_picked : Int64) (oc_now_shelves_lot : Nat → Int32) (oc_now_shelves_pieces : Nat → Int32) (oc_now_shelves_mark : Nat → Int32) (oc_now_orders_gifts : Int32) (oc_now_orders_open : Nat → Int32) (oc_now_orders_had : Nat → Int32) (oc_now_orders_stamps : Nat → Int32) (oc_rest : Nat → Int32)  (hf : f_X7_serve v1 v2 c_now_shelves_places c_now_shelves_picked c_now_shelves_lot c_now_shelves_pieces c_now_shelves_mark c_now_shelves_byDistance c_now_lots_count c_now_lots_product c_now_lots_last c_now_lots_state c_now_lots_byLast c_now_orders_count c_now_orders_gifts c_now_orders_product c_now_orders_open c_now_orders_due c_now_orders_life c_now_orders_had c_now_orders_stamps c_rest = some (r9, oc_now_shelves_picked, oc_now_shelves_lot, oc_now_shelves_pieces, oc_now_shelves_mark, oc_now_orders_gifts, oc_now_orders_open, oc_now_orders_had, oc_now_orders_stamps, oc_rest)) : Met l yX7_serve (wz yX7_serve cX7_serve 8 (some .int)) ({ frames := 3, cells := 0, slots := 0, locals := 71 }) (va_Pc [.ref a0, .int v1, .int v2] (wp D cI cJ cZ cS B0 [oX7 a0 a_now a_past c_acts c_nextSlot a_plan a_picker a_rest a_packed, oX6 a_now c_now_today c_now_products c_now_itemCount a_now_items a_now_books a_now_terms a_now_shelves a_now_lots a_now_orders, oX5 a_now_shelves c_now_shelves_lanes c_now_shelves_positions c_now_shelves_room c_now_shelves_gap c_now_shelves_places c_now_shelves_picked a_now_shelves_lot a_now_shelves_pieces a_now_shelves_mark a_now_shelves_byDistance, rI cI a_now_shelves_lot 48 c_now_shelves_lot, rI cI a_now_shelves_pieces 48 c_now_shelves_pieces, rI cI a_now_shelves_mark 48 c_now_shelves_mark, rI cI a_now_shelves_byDistance 48 c_now_shelves_byDistance, oX1 a_now_lots c_now_lots_count a_now_lots_product a_now_lots_last a_now_lots_cost a_now_lots_state a_now_lots_byLast, rI cI a_now_lots_product 24 c_now_lots_product, rI cI a_now_lots_last 24 c_now_lots_last, rI cI a_now_lots_state 24 c_now_lots_state, rI cI a_now_lots_byLast 24 c_now_lots_byLast, oX2 a_now_orders c_now_orders_count c_now_orders_gifts a_now_orders_customer a_now_orders_product a_now_orders_open a_now_orders_due a_now_orders_life a_now_orders_byDue a_now_orders_had a_now_orders_stamps, rI cI a_now_orders_product 40 c_now_orders_product, rI cI a_now_orders_open 40 c_now_orders_open, rI cI a_now_orders_due 40 c_now_orders_due, rI cI a_now_orders_life 40 c_now_orders_life, rI cI a_now_orders_had 960 c_now_orders_had, rI cI a_now_orders_stamps 960 c_now_orders_stamps, rI cI a_rest 24 c_rest] sz)) (va_Qi (fun (r2 : Int32) (_ : Unit) => r2 = r9) (fun _ t => va_P D vwCl [oX7 a0 a_now a_past c_acts c_nextSlot a_plan a_picker a_rest a_packed, oX6 a_now c_now_today c_now_products c_now_itemCount a_now_items a_now_books a_now_terms a_now_shelves a_now_lots a_now_orders, oX5 a_now_shelves c_now_shelves_lanes c_now_shelves_positions c_now_shelves_room c_now_shelves_gap c_now_shelves_places oc_now_shelves_picked a_now_shelves_lot a_now_shelves_pieces a_now_shelves_mark a_now_shelves_byDistance, rI cI a_now_shelves_lot 48 oc_now_shelves_lot, rI cI a_now_shelves_pieces 48 oc_now_shelves_pieces, rI cI a_now_shelves_mark 48 oc_now_shelves_mark, rI cI a_now_shelves_byDistance 48 c_now_shelves_byDistance, oX1 a_now_lots c_now_lots_count a_now_lots_product a_now_lots_last a_now_lots_cost a_now_lots_state a_now_lots_byLast, rI cI a_now_lots_product 24 c_now_lots_product, rI cI a_now_lots_last 24 c_now_lots_last, rI cI a_now_lots_state 24 c_now_lots_state, rI cI a_now_lots_byLast 24 c_now_lots_byLast, oX2 a_now_orders c_now_orders_count oc_now_orders_gifts a_now_orders_customer a_now_orders_product a_now_orders_open a_now_orders_due a_now_orders_life a_now_orders_byDue a_now_orders_had a_now_orders_stamps, rI cI a_now_orders_product 40 c_now_orders_product, rI cI a_now_orders_open 40 oc_now_orders_open, rI cI a_now_orders_due 40 c_now_orders_due, rI cI a_now_orders_life 40 c_now_orders_life, rI cI a_now_orders_had 960 oc_now_orders_had, rI cI a_now_orders_stamps 960 oc_now_orders_stamps, rI cI a_rest 24 oc_rest] t.heap) (va_A [oX7 a0 a_now a_past c_acts c_nextSlot a_plan a_picker a_rest a_packed, oX6 a_now c_now_today c_now_products c_now_itemCount a_now_items a_now_books a_now_terms a_now_shelves a_now_lots a_now_orders, oX5 a_now_shelves c_now_shelves_lanes c_now_shelves_positions c_now_shelves_room c_now_shelves_gap c_now_shelves_places c_now_shelves_picked a_now_shelves_lot a_now_shelves_pieces a_now_shelves_mark a_now_shelves_byDistance, rI cI a_now_shelves_lot 48 c_now_shelves_lot, rI cI a_now_shelves_pieces 48 c_now_shelves_pieces, rI cI a_now_shelves_mark 48 c_now_shelves_mark, rI cI a_now_shelves_byDistance 48 c_now_shelves_byDistance, oX1 a_now_lots c_now_lots_count a_now_lots_product a_now_lots_last a_now_lots_cost a_now_lots_state a_now_lots_byLast, rI cI a_now_lots_product 24 c_now_lots_product, rI cI a_now_lots_last 24 c_now_lots_last, rI cI a_now_lots_state 24 c_now_lots_state, rI cI a_now_lots_byLast 24 c_now_lots_byLast, oX2 a_now_orders c_now_orders_count c_now_orders_gifts a_now_orders_customer a_now_orders_product a_now_orders_open a_now_orders_due a_now_orders_life a_now_orders_byDue a_now_orders_had a_now_orders_stamps, rI cI a_now_orders_product 40 c_now_orders_product, rI cI a_now_orders_open 40 c_now_orders_open, rI cI a_now_orders_due 40 c_now_orders_due, rI cI a_now_orders_life 40 c_now_orders_life, rI cI a_now_orders_had 960 c_now_orders_had, rI cI a_now_orders_stamps 960 c_now_orders_stamps, rI cI a_rest 24 c_rest] sz)) 0 0 (va_A [oX7 a0 a_now a_past c_acts c_nextSlot a_plan a_picker a_rest a_packed, oX6 a_now c_now_today c_now_products c_now_itemCount a_now_items a_now_books a_now_terms a_now_shelves a_now_lots a_now_orders, oX5 a_now_shelves c_now_shelves_lanes c_now_shelves_positions c_now_shelves_room c_now_shelves_gap c_now_shelves_places c_now_shelves_picked a_now_shelves_lot a_now_shelves_pieces a_now_shelves_mark a_now_shelves_byDistance, rI cI a_now_shelves_lot 48 c_now_shelves_lot, rI cI a_now_shelves_pieces 48 c_now_shelves_pieces, rI cI a_now_shelves_mark 48 c_now_shelves_mark, rI cI a_now_shelves_byDistance 48 c_now_shelves_byDistance, oX1 a_now_lots c_now_lots_count a_now_lots_product a_now_lots_last a_now_lots_cost a_now_lots_state a_now_lots_byLast, rI cI a_now_lots_product 24 c_now_lots_product, rI cI a_now_lots_last 24 c_now_lots_last, rI cI a_now_lots_state 24 c_now_lots_state, rI cI a_now_lots_byLast 24 c_now_lots_byLast, oX2 a_now_orders c_now_orders_count c_now_orders_gifts a_now_orders_customer a_now_orders_product a_now_orders_open a_now_orders_due a_now_orders_life a_now_orders_byDue a_now_orders_had a_now_orders_stamps, rI cI a_now_orders_product 40 c_now_orders_product, rI cI a_now_orders_open 40 c_now_orders_open, rI cI a_now_orders_due 40 c_now_orders_due, rI cI a_now_orders_life 40 c_now_orders_life, rI cI a_now_orders_had 960 c_now_orders_had, rI cI a_now_orders_stamps 960 c_now_orders_stamps, rI cI a_rest 24 c_rest] sz) := by
  refine Met.ofW (cc := cX7_serve) (maxL := 8) (ret := (some .int)) (by decide) rfl ?_
  intro p e s m args below meth c s₁ B hml hv
  obtain ⟨rfl, hsz, hP, hK, hD0, hB0, hE⟩ := hv
  subst hsz
  have hx := B.exec
  have hb := B.bytes
  have hr := B.returns
  have hts := atoms_spec (ws := (wz yX7_serve cX7_serve 8 (some .int))) B.pre
  have hown : s.vm.findClass RX7 = some m.cls := findClass_of_methodNamed B.named
  have hlocks := B.notSynchronized
  have hD := hD0.self (sz := s.heap.size)
  have hAB : ∀ q : Nat, va_A [oX7 a0 a_now a_past c_acts c_nextSlot a_plan a_picker a_rest a_packed, oX6 a_now c_now_today c_now_products c_now_itemCount a_now_items a_now_books a_now_terms a_now_shelves a_now_lots a_now_orders, oX5 a_now_shelves c_now_shelves_lanes c_now_shelves_positions c_now_shelves_room c_now_shelves_gap c_now_shelves_places c_now_shelves_picked a_now_shelves_lot a_now_shelves_pieces a_now_shelves_mark a_now_shelves_byDistance, rI cI a_now_shelves_lot 48 c_now_shelves_lot, rI cI a_now_shelves_pieces 48 c_now_shelves_pieces, rI cI a_now_shelves_mark 48 c_now_shelves_mark, rI cI a_now_shelves_byDistance 48 c_now_shelves_byDistance, oX1 a_now_lots c_now_lots_count a_now_lots_product a_now_lots_last a_now_lots_cost a_now_lots_state a_now_lots_byLast, rI cI a_now_lots_product 24 c_now_lots_product, rI cI a_now_lots_last 24 c_now_lots_last, rI cI a_now_lots_state 24 c_now_lots_state, rI cI a_now_lots_byLast 24 c_now_lots_byLast, oX2 a_now_orders c_now_orders_count c_now_orders_gifts a_now_orders_customer a_now_orders_product a_now_orders_open a_now_orders_due a_now_orders_life a_now_orders_byDue a_now_orders_had a_now_orders_stamps, rI cI a_now_orders_product 40 c_now_orders_product, rI cI a_now_orders_open 40 c_now_orders_open, rI cI a_now_orders_due 40 c_now_orders_due, rI cI a_now_orders_life 40 c_now_orders_life, rI cI a_now_orders_had 960 c_now_orders_had, rI cI a_now_orders_stamps 960 c_now_orders_stamps, rI cI a_rest 24 c_rest] s.heap.size q → B0 ≤ q := va_A_B hD0 hB0
  generalize hAe : va_A [oX7 a0 a_now a_past c_acts c_nextSlot a_plan a_picker a_rest a_packed, oX6 a_now c_now_today c_now_products c_now_itemCount a_now_items a_now_books a_now_terms a_now_shelves a_now_lots a_now_orders, oX5 a_now_shelves c_now_shelves_lanes c_now_shelves_positions c_now_shelves_room c_now_shelves_gap c_now_shelves_places c_now_shelves_picked a_now_shelves_lot a_now_shelves_pieces a_now_shelves_mark a_now_shelves_byDistance, rI cI a_now_shelves_lot 48 c_now_shelves_lot, rI cI a_now_shelves_pieces 48 c_now_shelves_pieces, rI cI a_now_shelves_mark 48 c_now_shelves_mark, rI cI a_now_shelves_byDistance 48 c_now_shelves_byDistance, oX1 a_now_lots c_now_lots_count a_now_lots_product a_now_lots_last a_now_lots_cost a_now_lots_state a_now_lots_byLast, rI cI a_now_lots_product 24 c_now_lots_product, rI cI a_now_lots_last 24 c_now_lots_last, rI cI a_now_lots_state 24 c_now_lots_state, rI cI a_now_lots_byLast 24 c_now_lots_byLast, oX2 a_now_orders c_now_orders_count c_now_orders_gifts a_now_orders_customer a_now_orders_product a_now_orders_open a_now_orders_due a_now_orders_life a_now_orders_byDue a_now_orders_had a_now_orders_stamps, rI cI a_now_orders_product 40 c_now_orders_product, rI cI a_now_orders_open 40 c_now_orders_open, rI cI a_now_orders_due 40 c_now_orders_due, rI cI a_now_orders_life 40 c_now_orders_life, rI cI a_now_orders_had 960 c_now_orders_had, rI cI a_now_orders_stamps 960 c_now_orders_stamps, rI cI a_rest 24 c_rest] s.heap.size = A at hD hAB ⊢
  have hA : ∀ q : Nat, s.heap.size ≤ q → A q := fun q h => by rw [← hAe]; exact Or.inr h
  have hFa := hA
  have hS : va_S A s.heap s.heap [] := va_S.rf
  have hBn := fun (H : Heap) (locs : List Loc) (h : va_S A s.heap H locs) => Nat.le_trans hB0 h.1
  have hEn := fun (H : Heap) (locs : List Loc) (h : va_S A s.heap H locs) => gE_now hE h hAB
  have hl := lv_entry ([.ref a0, .int v1, .int v2]) (n := 8) (Nat.le_of_ble_eq_true rfl)
  rw [lg_entry_eq]
  generalize (lg_sl ([.ref a0, .int v1, .int v2]) ++ List.replicate (8 - (lg_sl ([.ref a0, .int v1, .int v2])).length) Slot.unset).toArray = ls at hl ⊢
  have hl : lv_has ls 8 [(0, .ref a0), (1, .int v1), (2, .int v2)] := hl
  obtain ⟨H, hHe⟩ : ∃ H : Heap, H = s.heap := ⟨_, rfl⟩
  have hP : va_P D vwCl [oX7 a0 a_now a_past c_acts c_nextSlot a_plan a_picker a_rest a_packed, oX6 a_now c_now_today c_now_products c_now_itemCount a_now_items a_now_books a_now_terms a_now_shelves a_now_lots a_now_orders, oX5 a_now_shelves c_now_shelves_lanes c_now_shelves_positions c_now_shelves_room c_now_shelves_gap c_now_shelves_places c_now_shelves_picked a_now_shelves_lot a_now_shelves_pieces a_now_shelves_mark a_now_shelves_byDistance, rI cI a_now_shelves_lot 48 c_now_shelves_lot, rI cI a_now_shelves_pieces 48 c_now_shelves_pieces, rI cI a_now_shelves_mark 48 c_now_shelves_mark, rI cI a_now_shelves_byDistance 48 c_now_shelves_byDistance, oX1 a_now_lots c_now_lots_count a_now_lots_product a_now_lots_last a_now_lots_cost a_now_lots_state a_now_lots_byLast, rI cI a_now_lots_product 24 c_now_lots_product, rI cI a_now_lots_last 24 c_now_lots_last, rI cI a_now_lots_state 24 c_now_lots_state, rI cI a_now_lots_byLast 24 c_now_lots_byLast, oX2 a_now_orders c_now_orders_count c_now_orders_gifts a_now_orders_customer a_now_orders_product a_now_orders_open a_now_orders_due a_now_orders_life a_now_orders_byDue a_now_orders_had a_now_orders_stamps, rI cI a_now_orders_product 40 c_now_orders_product, rI cI a_now_orders_open 40 c_now_orders_open, rI cI a_now_orders_due 40 c_now_orders_due, rI cI a_now_orders_life 40 c_now_orders_life, rI cI a_now_orders_had 960 c_now_orders_had, rI cI a_now_orders_stamps 960 c_now_orders_stamps, rI cI a_rest 24 c_rest] H := by rw [hHe]; exact hP
  have hS : va_S A s.heap H [] := by rw [hHe]; exact hS
  refine W_heq hHe ?_
  unfold f_X7_serve at hf
  refine gen_goW (fun WW hWW => ?_)
  have hL35 : ∀ (n : Nat) (n1 : Int32) (n2 : Int32) (n3 : Int32) (n4 : Int32) (n5 : Int32) (c_now_shelves_picked : Int64) (c_now_shelves_lot : Nat → Int32) (c_now_shelves_pieces : Nat → Int32) (c_now_shelves_mark : Nat → Int32) (c_now_orders_gifts : Int32) (c_now_orders_open : Nat → Int32) (c_now_orders_had : Nat → Int32) (c_now_orders_stamps : Nat → Int32) (c_rest : Nat → Int32) (e4 : Int32) (e_c_now_shelves_picked : Int64) (e_c_now_shelves_lot : Nat → Int32) (e_c_now_shelves_pieces : Nat → Int32) (e_c_now_shelves_mark : Nat → Int32) (e_c_now_orders_gifts : Int32) (e_c_now_orders_open : Nat → Int32) (e_c_now_orders_had : Nat → Int32) (e_c_now_orders_stamps : Nat → Int32) (e_c_rest : Nat → Int32), loop (fun z => f_X7_serve_L35 n1 n2 n3 c_now_shelves_places c_now_shelves_byDistance c_now_lots_count c_now_lots_product c_now_lots_last c_now_lots_state c_now_lots_byLast c_now_orders_count c_now_orders_product c_now_orders_due c_now_orders_life z.1 z.2.1 z.2.2.1 z.2.2.2.1 z.2.2.2.2.1 z.2.2.2.2.2.1 z.2.2.2.2.2.2.1 z.2.2.2.2.2.2.2.1 z.2.2.2.2.2.2.2.2.1 z.2.2.2.2.2.2.2.2.2.1 z.2.2.2.2.2.2.2.2.2.2) n (n4, n5, c_now_shelves_picked, c_now_shelves_lot, c_now_shelves_pieces, c_now_shelves_mark, c_now_orders_gifts, c_now_orders_open, c_now_orders_had, c_now_orders_stamps, c_rest) = some (e4, e_c_now_shelves_picked, e_c_now_shelves_lot, e_c_now_shelves_pieces, e_c_now_shelves_mark, e_c_now_orders_gifts, e_c_now_orders_open, e_c_now_orders_had, e_c_now_orders_stamps, e_c_rest) → (∀ (H : Heap) (locs : List Loc) (ls : Array Slot), va_P D vwCl [oX7 a0 a_now a_past c_acts c_nextSlot a_plan a_picker a_rest a_packed, oX6 a_now c_now_today c_now_products c_now_itemCount a_now_items a_now_books a_now_terms a_now_shelves a_now_lots a_now_orders, oX5 a_now_shelves c_now_shelves_lanes c_now_shelves_positions c_now_shelves_room c_now_shelves_gap c_now_shelves_places e_c_now_shelves_picked a_now_shelves_lot a_now_shelves_pieces a_now_shelves_mark a_now_shelves_byDistance, rI cI a_now_shelves_lot 48 e_c_now_shelves_lot, rI cI a_now_shelves_pieces 48 e_c_now_shelves_pieces, rI cI a_now_shelves_mark 48 e_c_now_shelves_mark, rI cI a_now_shelves_byDistance 48 c_now_shelves_byDistance, oX1 a_now_lots c_now_lots_count a_now_lots_product a_now_lots_last a_now_lots_cost a_now_lots_state a_now_lots_byLast, rI cI a_now_lots_product 24 c_now_lots_product, rI cI a_now_lots_last 24 c_now_lots_last, rI cI a_now_lots_state 24 c_now_lots_state, rI cI a_now_lots_byLast 24 c_now_lots_byLast, oX2 a_now_orders c_now_orders_count e_c_now_orders_gifts a_now_orders_customer a_now_orders_product a_now_orders_open a_now_orders_due a_now_orders_life a_now_orders_byDue a_now_orders_had a_now_orders_stamps, rI cI a_now_orders_product 40 c_now_orders_product, rI cI a_now_orders_open 40 e_c_now_orders_open, rI cI a_now_orders_due 40 c_now_orders_due, rI cI a_now_orders_life 40 c_now_orders_life, rI cI a_now_orders_had 960 e_c_now_orders_had, rI cI a_now_orders_stamps 960 e_c_now_orders_stamps, rI cI a_rest 24 e_c_rest] H → va_D A [oX7 a0 a_now a_past c_acts c_nextSlot a_plan a_picker a_rest a_packed, oX6 a_now c_now_today c_now_products c_now_itemCount a_now_items a_now_books a_now_terms a_now_shelves a_now_lots a_now_orders, oX5 a_now_shelves c_now_shelves_lanes c_now_shelves_positions c_now_shelves_room c_now_shelves_gap c_now_shelves_places e_c_now_shelves_picked a_now_shelves_lot a_now_shelves_pieces a_now_shelves_mark a_now_shelves_byDistance, rI cI a_now_shelves_lot 48 e_c_now_shelves_lot, rI cI a_now_shelves_pieces 48 e_c_now_shelves_pieces, rI cI a_now_shelves_mark 48 e_c_now_shelves_mark, rI cI a_now_shelves_byDistance 48 c_now_shelves_byDistance, oX1 a_now_lots c_now_lots_count a_now_lots_product a_now_lots_last a_now_lots_cost a_now_lots_state a_now_lots_byLast, rI cI a_now_lots_product 24 c_now_lots_product, rI cI a_now_lots_last 24 c_now_lots_last, rI cI a_now_lots_state 24 c_now_lots_state, rI cI a_now_lots_byLast 24 c_now_lots_byLast, oX2 a_now_orders c_now_orders_count e_c_now_orders_gifts a_now_orders_customer a_now_orders_product a_now_orders_open a_now_orders_due a_now_orders_life a_now_orders_byDue a_now_orders_had a_now_orders_stamps, rI cI a_now_orders_product 40 c_now_orders_product, rI cI a_now_orders_open 40 e_c_now_orders_open, rI cI a_now_orders_due 40 c_now_orders_due, rI cI a_now_orders_life 40 c_now_orders_life, rI cI a_now_orders_had 960 e_c_now_orders_had, rI cI a_now_orders_stamps 960 e_c_now_orders_stamps, rI cI a_rest 24 e_c_rest] → va_S A s.heap H locs → lv_has ls 8 [(4, .int e4)] → WW H locs 0 0 (F0 m 188 ls [])) → ∀ (H : Heap) (locs : List Loc) (ls : Array Slot), va_P D vwCl [oX7 a0 a_now a_past c_acts c_nextSlot a_plan a_picker a_rest a_packed, oX6 a_now c_now_today c_now_products c_now_itemCount a_now_items a_now_books a_now_terms a_now_shelves a_now_lots a_now_orders, oX5 a_now_shelves c_now_shelves_lanes c_now_shelves_positions c_now_shelves_room c_now_shelves_gap c_now_shelves_places c_now_shelves_picked a_now_shelves_lot a_now_shelves_pieces a_now_shelves_mark a_now_shelves_byDistance, rI cI a_now_shelves_lot 48 c_now_shelves_lot, rI cI a_now_shelves_pieces 48 c_now_shelves_pieces, rI cI a_now_shelves_mark 48 c_now_shelves_mark, rI cI a_now_shelves_byDistance 48 c_now_shelves_byDistance, oX1 a_now_lots c_now_lots_count a_now_lots_product a_now_lots_last a_now_lots_cost a_now_lots_state a_now_lots_byLast, rI cI a_now_lots_product 24 c_now_lots_product, rI cI a_now_lots_last 24 c_now_lots_last, rI cI a_now_lots_state 24 c_now_lots_state, rI cI a_now_lots_byLast 24 c_now_lots_byLast, oX2 a_now_orders c_now_orders_count c_now_orders_gifts a_now_orders_customer a_now_orders_product a_now_orders_open a_now_orders_due a_now_orders_life a_now_orders_byDue a_now_orders_had a_now_orders_stamps, rI cI a_now_orders_product 40 c_now_orders_product, rI cI a_now_orders_open 40 c_now_orders_open, rI cI a_now_orders_due 40 c_now_orders_due, rI cI a_now_orders_life 40 c_now_orders_life, rI cI a_now_orders_had 960 c_now_orders_had, rI cI a_now_orders_stamps 960 c_now_orders_stamps, rI cI a_rest 24 c_rest] H → va_D A [oX7 a0 a_now a_past c_acts c_nextSlot a_plan a_picker a_rest a_packed, oX6 a_now c_now_today c_now_products c_now_itemCount a_now_items a_now_books a_now_terms a_now_shelves a_now_lots a_now_orders, oX5 a_now_shelves c_now_shelves_lanes c_now_shelves_positions c_now_shelves_room c_now_shelves_gap c_now_shelves_places c_now_shelves_picked a_now_shelves_lot a_now_shelves_pieces a_now_shelves_mark a_now_shelves_byDistance, rI cI a_now_shelves_lot 48 c_now_shelves_lot, rI cI a_now_shelves_pieces 48 c_now_shelves_pieces, rI cI a_now_shelves_mark 48 c_now_shelves_mark, rI cI a_now_shelves_byDistance 48 c_now_shelves_byDistance, oX1 a_now_lots c_now_lots_count a_now_lots_product a_now_lots_last a_now_lots_cost a_now_lots_state a_now_lots_byLast, rI cI a_now_lots_product 24 c_now_lots_product, rI cI a_now_lots_last 24 c_now_lots_last, rI cI a_now_lots_state 24 c_now_lots_state, rI cI a_now_lots_byLast 24 c_now_lots_byLast, oX2 a_now_orders c_now_orders_count c_now_orders_gifts a_now_orders_customer a_now_orders_product a_now_orders_open a_now_orders_due a_now_orders_life a_now_orders_byDue a_now_orders_had a_now_orders_stamps, rI cI a_now_orders_product 40 c_now_orders_product, rI cI a_now_orders_open 40 c_now_orders_open, rI cI a_now_orders_due 40 c_now_orders_due, rI cI a_now_orders_life 40 c_now_orders_life, rI cI a_now_orders_had 960 c_now_orders_had, rI cI a_now_orders_stamps 960 c_now_orders_stamps, rI cI a_rest 24 c_rest] → va_S A s.heap H locs → lv_has ls 8 [(0, .ref a0), (1, .int n1), (2, .int n2), (3, .int n3), (4, .int n4), (5, .int n5)] → WW H locs 0 0 (F0 m 35 ls []) := by
    intro n
    induction n with
    | zero =>
      intro n1 n2 n3 n4 n5 c_now_shelves_picked c_now_shelves_lot c_now_shelves_pieces c_now_shelves_mark c_now_orders_gifts c_now_orders_open c_now_orders_had c_now_orders_stamps c_rest e4 e_c_now_shelves_picked e_c_now_shelves_lot e_c_now_shelves_pieces e_c_now_shelves_mark e_c_now_orders_gifts e_c_now_orders_open e_c_now_orders_had e_c_now_orders_stamps e_c_rest hlp
      exact absurd hlp (by simp [loop])
    | succ n ih =>
      intro n1 n2 n3 n4 n5 c_now_shelves_picked c_now_shelves_lot c_now_shelves_pieces c_now_shelves_mark c_now_orders_gifts c_now_orders_open c_now_orders_had c_now_orders_stamps c_rest e4 e_c_now_shelves_picked e_c_now_shelves_lot e_c_now_shelves_pieces e_c_now_shelves_mark e_c_now_orders_gifts e_c_now_orders_open e_c_now_orders_had e_c_now_orders_stamps e_c_rest hlp K H locs ls hP hD hS hl
      obtain ⟨x9, hf, hlp⟩ := loop_s hlp
      have hf : f_X7_serve_L35 n1 n2 n3 c_now_shelves_places c_now_shelves_byDistance c_now_lots_count c_now_lots_product c_now_lots_last c_now_lots_state c_now_lots_byLast c_now_orders_count c_now_orders_product c_now_orders_due c_now_orders_life n4 n5 c_now_shelves_picked c_now_shelves_lot c_now_shelves_pieces c_now_shelves_mark c_now_orders_gifts c_now_orders_open c_now_orders_had c_now_orders_stamps c_rest = some x9 := hf
      unfold f_X7_serve_L35 at hf
      have hJ182 : ∀ (n4 : Int32) (n5 : Int32) (c_now_shelves_picked : Int64) (c_now_shelves_lot : Nat → Int32) (c_now_shelves_pieces : Nat → Int32) (c_now_shelves_mark : Nat → Int32) (c_now_orders_gifts : Int32) (c_now_orders_open : Nat → Int32) (c_now_orders_had : Nat → Int32) (c_now_orders_stamps : Nat → Int32) (c_rest : Nat → Int32), f_X7_serve_L35_J182 n1 n2 n3 n4 n5 c_now_shelves_places c_now_shelves_picked c_now_shelves_lot c_now_shelves_pieces c_now_shelves_mark c_now_shelves_byDistance c_now_lots_count c_now_lots_product c_now_lots_last c_now_lots_state c_now_lots_byLast c_now_orders_count c_now_orders_gifts c_now_orders_product c_now_orders_open c_now_orders_due c_now_orders_life c_now_orders_had c_now_orders_stamps c_rest = some x9 → ∀ (H : Heap) (locs : List Loc) (ls : Array Slot), va_P D vwCl [oX7 a0 a_now a_past c_acts c_nextSlot a_plan a_picker a_rest a_packed, oX6 a_now c_now_today c_now_products c_now_itemCount a_now_items a_now_books a_now_terms a_now_shelves a_now_lots a_now_orders, oX5 a_now_shelves c_now_shelves_lanes c_now_shelves_positions c_now_shelves_room c_now_shelves_gap c_now_shelves_places c_now_shelves_picked a_now_shelves_lot a_now_shelves_pieces a_now_shelves_mark a_now_shelves_byDistance, rI cI a_now_shelves_lot 48 c_now_shelves_lot, rI cI a_now_shelves_pieces 48 c_now_shelves_pieces, rI cI a_now_shelves_mark 48 c_now_shelves_mark, rI cI a_now_shelves_byDistance 48 c_now_shelves_byDistance, oX1 a_now_lots c_now_lots_count a_now_lots_product a_now_lots_last a_now_lots_cost a_now_lots_state a_now_lots_byLast, rI cI a_now_lots_product 24 c_now_lots_product, rI cI a_now_lots_last 24 c_now_lots_last, rI cI a_now_lots_state 24 c_now_lots_state, rI cI a_now_lots_byLast 24 c_now_lots_byLast, oX2 a_now_orders c_now_orders_count c_now_orders_gifts a_now_orders_customer a_now_orders_product a_now_orders_open a_now_orders_due a_now_orders_life a_now_orders_byDue a_now_orders_had a_now_orders_stamps, rI cI a_now_orders_product 40 c_now_orders_product, rI cI a_now_orders_open 40 c_now_orders_open, rI cI a_now_orders_due 40 c_now_orders_due, rI cI a_now_orders_life 40 c_now_orders_life, rI cI a_now_orders_had 960 c_now_orders_had, rI cI a_now_orders_stamps 960 c_now_orders_stamps, rI cI a_rest 24 c_rest] H → va_D A [oX7 a0 a_now a_past c_acts c_nextSlot a_plan a_picker a_rest a_packed, oX6 a_now c_now_today c_now_products c_now_itemCount a_now_items a_now_books a_now_terms a_now_shelves a_now_lots a_now_orders, oX5 a_now_shelves c_now_shelves_lanes c_now_shelves_positions c_now_shelves_room c_now_shelves_gap c_now_shelves_places c_now_shelves_picked a_now_shelves_lot a_now_shelves_pieces a_now_shelves_mark a_now_shelves_byDistance, rI cI a_now_shelves_lot 48 c_now_shelves_lot, rI cI a_now_shelves_pieces 48 c_now_shelves_pieces, rI cI a_now_shelves_mark 48 c_now_shelves_mark, rI cI a_now_shelves_byDistance 48 c_now_shelves_byDistance, oX1 a_now_lots c_now_lots_count a_now_lots_product a_now_lots_last a_now_lots_cost a_now_lots_state a_now_lots_byLast, rI cI a_now_lots_product 24 c_now_lots_product, rI cI a_now_lots_last 24 c_now_lots_last, rI cI a_now_lots_state 24 c_now_lots_state, rI cI a_now_lots_byLast 24 c_now_lots_byLast, oX2 a_now_orders c_now_orders_count c_now_orders_gifts a_now_orders_customer a_now_orders_product a_now_orders_open a_now_orders_due a_now_orders_life a_now_orders_byDue a_now_orders_had a_now_orders_stamps, rI cI a_now_orders_product 40 c_now_orders_product, rI cI a_now_orders_open 40 c_now_orders_open, rI cI a_now_orders_due 40 c_now_orders_due, rI cI a_now_orders_life 40 c_now_orders_life, rI cI a_now_orders_had 960 c_now_orders_had, rI cI a_now_orders_stamps 960 c_now_orders_stamps, rI cI a_rest 24 c_rest] → va_S A s.heap H locs → lv_has ls 8 [(0, .ref a0), (1, .int n1), (2, .int n2), (3, .int n3), (4, .int n4), (5, .int n5)] → WW H locs 0 0 (F0 m 182 ls []) := by
        intro n4 n5 c_now_shelves_picked c_now_shelves_lot c_now_shelves_pieces c_now_shelves_mark c_now_orders_gifts c_now_orders_open c_now_orders_had c_now_orders_stamps c_rest hf H locs ls hP hD hS hl
        unfold f_X7_serve_L35_J182 at hf
        refine (hWW _ _ _ _ _).mpr ?_
        refine lv_iinc (v := (n5 + 1)) (lv' := [(5, .int (n5 + 1)), (0, .ref a0), (1, .int n1), (2, .int n2), (3, .int n3), (4, .int n4)]) hx hb dX7_serve_182 hl (k := 5) rfl rfl (by decide) rfl (fun ls hl => ?_)
        refine lv_goto (tgt := 35) hx hb dX7_serve_185 (by decide) ?_
        obtain rfl := Option.some.inj hf
        exact (hWW _ _ _ _ _).mp (ih _ _ _ _ _ _ _ _ _ _ _ _ _ _ _ _ _ _ _ _ _ _ _ _ hlp K _ _ ls hP hD hS (lv_sub hl [1, 2, 3, 4, 5, 0] rfl))
      refine (hWW _ _ _ _ _).mpr ?_
      refine lv_iload hx hb dX7_serve_35 (lv_at hl 5 rfl) ?_
      refine lv_aload_n hx hb dX7_serve_37 rfl (lv_at hl 0 rfl) ?_
      refine va_get (D := D) (ci := 6) (v := .ref a_now) (C := RX7) (T := TX7) (N := 8) hx hb hts (fun w h => mb (iX7 w h)) hown hK hP 0 rfl rfl 0 (by decide) (hts _ (mb tb_270)) (fun _ h9 => h9) rfl dX7_serve_38 ?_
      refine va_get (D := D) (ci := 5) (v := .ref a_now_lots) (C := RX6) (T := TX6) (N := 9) hx hb hts (fun w h => mb (iX6 w h)) hown hK hP 1 rfl rfl 7 (by decide) (hts _ (mb tb_171)) (fun _ h9 => h9) rfl dX7_serve_41 ?_
      refine va_get (D := D) (ci := 0) (v := .int c_now_lots_count) (C := RX1) (T := TX1) (N := 6) hx hb hts (fun w h => mb (iX1 w h)) hown hK hP 7 rfl rfl 0 (by decide) (hts _ (mb tb_89)) (fun _ h9 => h9) rfl dX7_serve_44 ?_
      refine lv_icmp_ge (tgt := 188) hx hb dX7_serve_47 (by decide) (fun h5 => ?_) (fun h5 => ?_)
      · have hf := ipos h5 hf
        obtain rfl := Option.some.inj hf
        cases lpx_r hlp
        exact (hWW _ _ _ _ _).mp (K _ _ ls hP hD hS (lv_sub hl [4] rfl))
      · have hf := ineg h5 hf
        refine lv_iload hx hb dX7_serve_50 (lv_at hl 4 rfl) ?_
        refine lv_iload_n hx hb dX7_serve_52 rfl (lv_at hl 3 rfl) ?_
        refine lv_icmp_ge (tgt := 188) hx hb dX7_serve_53 (by decide) (fun h6 => ?_) (fun h6 => ?_)
        · have hf := ipos h6 hf
          obtain rfl := Option.some.inj hf
          cases lpx_r hlp
          exact (hWW _ _ _ _ _).mp (K _ _ ls hP hD hS (lv_sub hl [4] rfl))
        · have hf := ineg h6 hf
          refine lv_aload_n hx hb dX7_serve_56 rfl (lv_at hl 0 rfl) ?_
          refine va_get (D := D) (ci := 6) (v := .ref a_now) (C := RX7) (T := TX7) (N := 8) hx hb hts (fun w h => mb (iX7 w h)) hown hK hP 0 rfl rfl 0 (by decide) (hts _ (mb tb_270)) (fun _ h9 => h9) rfl dX7_serve_57 ?_
          refine va_get (D := D) (ci := 5) (v := .ref a_now_lots) (C := RX6) (T := TX6) (N := 9) hx hb hts (fun w h => mb (iX6 w h)) hown hK hP 1 rfl rfl 7 (by decide) (hts _ (mb tb_171)) (fun _ h9 => h9) rfl dX7_serve_60 ?_
          refine va_get (D := D) (ci := 0) (v := .ref a_now_lots_byLast) (C := RX1) (T := TX1) (N := 6) hx hb hts (fun w h => mb (iX1 w h)) hown hK hP 7 rfl rfl 5 (by decide) (hts _ (mb tb_99)) (fun _ h9 => h9) rfl dX7_serve_63 ?_
          refine lv_iload hx hb dX7_serve_66 (lv_at hl 5 rfl) ?_
          obtain ⟨h7, hf⟩ := ob_d hf
          refine va_iald hx hb hK hP 11 0 rfl rfl h7 dX7_serve_68 ?_
          refine lv_istore (lv' := [(6, .int (c_now_lots_byLast n5.toNatClampNeg)), (0, .ref a0), (1, .int n1), (2, .int n2), (3, .int n3), (4, .int n4), (5, .int n5)]) hx hb dX7_serve_69 hl (by decide) rfl (fun ls hl => ?_)
          refine lv_aload_n hx hb dX7_serve_71 rfl (lv_at hl 1 rfl) ?_
          refine va_get (D := D) (ci := 6) (v := .ref a_now) (C := RX7) (T := TX7) (N := 8) hx hb hts (fun w h => mb (iX7 w h)) hown hK hP 0 rfl rfl 0 (by decide) (hts _ (mb tb_270)) (fun _ h9 => h9) rfl dX7_serve_72 ?_
          refine va_get (D := D) (ci := 5) (v := .ref a_now_lots) (C := RX6) (T := TX6) (N := 9) hx hb hts (fun w h => mb (iX6 w h)) hown hK hP 1 rfl rfl 7 (by decide) (hts _ (mb tb_171)) (fun _ h9 => h9) rfl dX7_serve_75 ?_
          refine lv_iload hx hb dX7_serve_78 (lv_at hl 0 rfl) ?_
          refine lv_aload_n hx hb dX7_serve_80 rfl (lv_at hl 1 rfl) ?_
          refine va_get (D := D) (ci := 6) (v := .ref a_now) (C := RX7) (T := TX7) (N := 8) hx hb hts (fun w h => mb (iX7 w h)) hown hK hP 0 rfl rfl 0 (by decide) (hts _ (mb tb_270)) (fun _ h9 => h9) rfl dX7_serve_81 ?_
          refine va_get (D := D) (ci := 5) (v := .ref a_now_orders) (C := RX6) (T := TX6) (N := 9) hx hb hts (fun w h => mb (iX6 w h)) hown hK hP 1 rfl rfl 8 (by decide) (hts _ (mb tb_173)) (fun _ h9 => h9) rfl dX7_serve_84 ?_
          refine va_get (D := D) (ci := 1) (v := .ref a_now_orders_product) (C := RX2) (T := TX2) (N := 10) hx hb hts (fun w h => mb (iX2 w h)) hown hK hP 12 rfl rfl 3 (by decide) (hts _ (mb tb_125)) (fun _ h9 => h9) rfl dX7_serve_87 ?_
          refine lv_iload_n hx hb dX7_serve_90 rfl (lv_at hl 2 rfl) ?_
          obtain ⟨h8, hf⟩ := ob_d hf
          refine va_iald hx hb hK hP 13 0 rfl rfl h8 dX7_serve_91 ?_
          refine lv_aload_n hx hb dX7_serve_92 rfl (lv_at hl 1 rfl) ?_
          refine va_get (D := D) (ci := 6) (v := .ref a_now) (C := RX7) (T := TX7) (N := 8) hx hb hts (fun w h => mb (iX7 w h)) hown hK hP 0 rfl rfl 0 (by decide) (hts _ (mb tb_270)) (fun _ h9 => h9) rfl dX7_serve_93 ?_
          refine va_get (D := D) (ci := 5) (v := .ref a_now_orders) (C := RX6) (T := TX6) (N := 9) hx hb hts (fun w h => mb (iX6 w h)) hown hK hP 1 rfl rfl 8 (by decide) (hts _ (mb tb_173)) (fun _ h9 => h9) rfl dX7_serve_96 ?_
          refine lv_iload_n hx hb dX7_serve_99 rfl (lv_at hl 2 rfl) ?_
          obtain ⟨r9, hc10, hf⟩ := ob1 hf
          refine ro_calli (r := r9) (va_runV (As := [.int n1]) (rest := [.int (c_now_orders_product n1.toNatClampNeg), .int (c_now_lots_byLast n5.toNatClampNeg), .ref a_now_lots]) ⟨hx, hb, hml, hown, hts⟩ (k_X2_wantedDay l hl0 D cI cJ cZ cS B0 H a_now_orders a_now_orders_customer a_now_orders_product a_now_orders_open a_now_orders_due a_now_orders_life a_now_orders_byDue a_now_orders_had a_now_orders_stamps c_now_orders_count c_now_orders_gifts c_now_orders_due c_now_orders_life n1 r9 hc10) (cwV 1 hts (gV tb_354 tb_355 tb_356 tb_5 tb_357) rfl rfl rfl (by decide +kernel) ⟨Nat.le_of_ble_eq_true rfl, Nat.le_of_ble_eq_true rfl⟩) ⟨rp_blind, va_recv hK hP (ci := 1) (q0 := 12) rfl rfl, rp_pre (hP.sub [12, 15, 16] rfl) hK (hBn _ _ hS) (hEn _ _ hS)⟩ rfl rfl hl.1 rfl (lv_room (Nat.le_of_ble_eq_true rfl)) dX7_serve_100 ⟨Nat.le_of_ble_eq_true rfl, Nat.le_of_ble_eq_true rfl⟩) ?_
          obtain ⟨r11, hc12, hf⟩ := ob1 hf
          refine ro_calli (r := r11) (va_runV (As := [.int (c_now_lots_byLast n5.toNatClampNeg), .int (c_now_orders_product n1.toNatClampNeg), .int r9]) (rest := []) ⟨hx, hb, hml, hown, hts⟩ (k_X1_isFit l hl0 D cI cJ cZ cS B0 H a_now_lots a_now_lots_product a_now_lots_last a_now_lots_cost a_now_lots_state a_now_lots_byLast c_now_lots_count c_now_lots_product c_now_lots_last c_now_lots_state (c_now_lots_byLast n5.toNatClampNeg) (c_now_orders_product n1.toNatClampNeg) r9 r11 hc12) (cwV 3 hts (gV tb_359 tb_360 tb_361 tb_4 tb_362) rfl rfl rfl (by decide +kernel) ⟨Nat.le_of_ble_eq_true rfl, Nat.le_of_ble_eq_true rfl⟩) ⟨rp_blind, va_recv hK hP (ci := 0) (q0 := 7) rfl rfl, rp_pre (hP.sub [7, 8, 9, 10] rfl) hK (hBn _ _ hS) (hEn _ _ hS)⟩ rfl rfl hl.1 rfl (lv_room (Nat.le_of_ble_eq_true rfl)) dX7_serve_103 ⟨Nat.le_of_ble_eq_true rfl, Nat.le_of_ble_eq_true rfl⟩) ?_
          refine lv_if_eq (tgt := 182) hx hb dX7_serve_106 (by decide) (fun h13 => ?_) (fun h13 => ?_)
          · have hf := ipos h13 hf
            exact (hWW _ _ _ _ _).mp (hJ182 _ _ _ _ _ _ _ _ _ _ _ hf _ _ ls hP hD hS (lv_sub hl [1, 2, 3, 4, 5, 6] rfl))
          · have hf := ineg h13 hf
            refine lv_iload_n hx hb dX7_serve_109 rfl (lv_at hl 4 rfl) ?_
            refine lv_iload hx hb dX7_serve_110 (lv_at hl 5 rfl) ?_
            refine lv_isub hx hb dX7_serve_112 ?_
            refine lv_aload_n hx hb dX7_serve_113 rfl (lv_at hl 1 rfl) ?_
            refine va_get (D := D) (ci := 6) (v := .ref a_rest) (C := RX7) (T := TX7) (N := 8) hx hb hts (fun w h => mb (iX7 w h)) hown hK hP 0 rfl rfl 6 (by decide) (hts _ (mb tb_276)) (fun _ h9 => h9) rfl dX7_serve_114 ?_
            refine lv_iload hx hb dX7_serve_117 (lv_at hl 0 rfl) ?_
            obtain ⟨h14, hf⟩ := ob_d hf
            refine va_iald hx hb hK hP 19 0 rfl rfl h14 dX7_serve_119 ?_
            refine va_mmin hx hb (hml.trans hl.1.symm) hown (hts _ (mb tb_341)) (hts _ (mb tb_252)) (hts _ (mb tb_8)) (hts _ (mb wm_min)) (Nat.le_of_ble_eq_true rfl) (Nat.le_of_ble_eq_true rfl) (Nat.zero_le _) (Nat.zero_le _) dX7_serve_120 ?_
            refine lv_istore (lv' := [(7, .int (if (c_rest (c_now_lots_byLast n5.toNatClampNeg).toNatClampNeg) < (n3 - n4) then (c_rest (c_now_lots_byLast n5.toNatClampNeg).toNatClampNeg) else (n3 - n4))), (6, .int (c_now_lots_byLast n5.toNatClampNeg)), (0, .ref a0), (1, .int n1), (2, .int n2), (3, .int n3), (4, .int n4), (5, .int n5)]) hx hb dX7_serve_123 hl (by decide) rfl (fun ls hl => ?_)
            refine lv_aload_n hx hb dX7_serve_125 rfl (lv_at hl 2 rfl) ?_
            refine va_get (D := D) (ci := 6) (v := .ref a_rest) (C := RX7) (T := TX7) (N := 8) hx hb hts (fun w h => mb (iX7 w h)) hown hK hP 0 rfl rfl 6 (by decide) (hts _ (mb tb_276)) (fun _ h9 => h9) rfl dX7_serve_126 ?_
            refine lv_iload hx hb dX7_serve_129 (lv_at hl 1 rfl) ?_
            refine lv_dup2_11 hx hb dX7_serve_131 rfl rfl ?_
            obtain ⟨h15, hf⟩ := ob_d hf
            refine va_iald hx hb hK hP 19 0 rfl rfl h15 dX7_serve_132 ?_
            refine lv_iload hx hb dX7_serve_133 (lv_at hl 0 rfl) ?_
            refine lv_isub hx hb dX7_serve_135 ?_
            obtain ⟨h16, hf⟩ := ob_d hf
            refine va_iast hx hb hK hP hD hS 19 0 rfl rfl h16 dX7_serve_136 (fun H locs hP hD hS => ?_)
            have hP : va_P D vwCl [oX7 a0 a_now a_past c_acts c_nextSlot a_plan a_picker a_rest a_packed, oX6 a_now c_now_today c_now_products c_now_itemCount a_now_items a_now_books a_now_terms a_now_shelves a_now_lots a_now_orders, oX5 a_now_shelves c_now_shelves_lanes c_now_shelves_positions c_now_shelves_room c_now_shelves_gap c_now_shelves_places c_now_shelves_picked a_now_shelves_lot a_now_shelves_pieces a_now_shelves_mark a_now_shelves_byDistance, rI cI a_now_shelves_lot 48 c_now_shelves_lot, rI cI a_now_shelves_pieces 48 c_now_shelves_pieces, rI cI a_now_shelves_mark 48 c_now_shelves_mark, rI cI a_now_shelves_byDistance 48 c_now_shelves_byDistance, oX1 a_now_lots c_now_lots_count a_now_lots_product a_now_lots_last a_now_lots_cost a_now_lots_state a_now_lots_byLast, rI cI a_now_lots_product 24 c_now_lots_product, rI cI a_now_lots_last 24 c_now_lots_last, rI cI a_now_lots_state 24 c_now_lots_state, rI cI a_now_lots_byLast 24 c_now_lots_byLast, oX2 a_now_orders c_now_orders_count c_now_orders_gifts a_now_orders_customer a_now_orders_product a_now_orders_open a_now_orders_due a_now_orders_life a_now_orders_byDue a_now_orders_had a_now_orders_stamps, rI cI a_now_orders_product 40 c_now_orders_product, rI cI a_now_orders_open 40 c_now_orders_open, rI cI a_now_orders_due 40 c_now_orders_due, rI cI a_now_orders_life 40 c_now_orders_life, rI cI a_now_orders_had 960 c_now_orders_had, rI cI a_now_orders_stamps 960 c_now_orders_stamps, rI cI a_rest 24 (upd c_rest (c_now_lots_byLast n5.toNatClampNeg).toNatClampNeg ((c_rest (c_now_lots_byLast n5.toNatClampNeg).toNatClampNeg) - (if (c_rest (c_now_lots_byLast n5.toNatClampNeg).toNatClampNeg) < (n3 - n4) then (c_rest (c_now_lots_byLast n5.toNatClampNeg).toNatClampNeg) else (n3 - n4))))] H := hP
            have hD : va_D A [oX7 a0 a_now a_past c_acts c_nextSlot a_plan a_picker a_rest a_packed, oX6 a_now c_now_today c_now_products c_now_itemCount a_now_items a_now_books a_now_terms a_now_shelves a_now_lots a_now_orders, oX5 a_now_shelves c_now_shelves_lanes c_now_shelves_positions c_now_shelves_room c_now_shelves_gap c_now_shelves_places c_now_shelves_picked a_now_shelves_lot a_now_shelves_pieces a_now_shelves_mark a_now_shelves_byDistance, rI cI a_now_shelves_lot 48 c_now_shelves_lot, rI cI a_now_shelves_pieces 48 c_now_shelves_pieces, rI cI a_now_shelves_mark 48 c_now_shelves_mark, rI cI a_now_shelves_byDistance 48 c_now_shelves_byDistance, oX1 a_now_lots c_now_lots_count a_now_lots_product a_now_lots_last a_now_lots_cost a_now_lots_state a_now_lots_byLast, rI cI a_now_lots_product 24 c_now_lots_product, rI cI a_now_lots_last 24 c_now_lots_last, rI cI a_now_lots_state 24 c_now_lots_state, rI cI a_now_lots_byLast 24 c_now_lots_byLast, oX2 a_now_orders c_now_orders_count c_now_orders_gifts a_now_orders_customer a_now_orders_product a_now_orders_open a_now_orders_due a_now_orders_life a_now_orders_byDue a_now_orders_had a_now_orders_stamps, rI cI a_now_orders_product 40 c_now_orders_product, rI cI a_now_orders_open 40 c_now_orders_open, rI cI a_now_orders_due 40 c_now_orders_due, rI cI a_now_orders_life 40 c_now_orders_life, rI cI a_now_orders_had 960 c_now_orders_had, rI cI a_now_orders_stamps 960 c_now_orders_stamps, rI cI a_rest 24 (upd c_rest (c_now_lots_byLast n5.toNatClampNeg).toNatClampNeg ((c_rest (c_now_lots_byLast n5.toNatClampNeg).toNatClampNeg) - (if (c_rest (c_now_lots_byLast n5.toNatClampNeg).toNatClampNeg) < (n3 - n4) then (c_rest (c_now_lots_byLast n5.toNatClampNeg).toNatClampNeg) else (n3 - n4))))] := hD
            refine lv_iload hx hb dX7_serve_137 (lv_at hl 6 rfl) ?_
            refine lv_iload hx hb dX7_serve_139 (lv_at hl 0 rfl) ?_
            refine lv_iadd hx hb dX7_serve_141 ?_
            refine lv_istore (lv' := [(4, .int (n4 + (if (c_rest (c_now_lots_byLast n5.toNatClampNeg).toNatClampNeg) < (n3 - n4) then (c_rest (c_now_lots_byLast n5.toNatClampNeg).toNatClampNeg) else (n3 - n4)))), (7, .int (if (c_rest (c_now_lots_byLast n5.toNatClampNeg).toNatClampNeg) < (n3 - n4) then (c_rest (c_now_lots_byLast n5.toNatClampNeg).toNatClampNeg) else (n3 - n4))), (6, .int (c_now_lots_byLast n5.toNatClampNeg)), (0, .ref a0), (1, .int n1), (2, .int n2), (3, .int n3), (5, .int n5)]) hx hb dX7_serve_142 hl (by decide) rfl (fun ls hl => ?_)
            refine lv_iload_n hx hb dX7_serve_144 rfl (lv_at hl 5 rfl) ?_
            refine lv_if_eq (tgt := 182) hx hb dX7_serve_145 (by decide) (fun h17 => ?_) (fun h17 => ?_)
            · have hf := ipos h17 hf
              exact (hWW _ _ _ _ _).mp (hJ182 _ _ _ _ _ _ _ _ _ _ _ hf _ _ ls hP hD hS (lv_sub hl [3, 4, 5, 6, 0, 7] rfl))
            · have hf := ineg h17 hf
              refine lv_iload hx hb dX7_serve_148 (lv_at hl 1 rfl) ?_
              refine lv_if_le (tgt := 182) hx hb dX7_serve_150 (by decide) (fun h18 => ?_) (fun h18 => ?_)
              · have hf := ipos h18 hf
                exact (hWW _ _ _ _ _).mp (hJ182 _ _ _ _ _ _ _ _ _ _ _ hf _ _ ls hP hD hS (lv_sub hl [3, 4, 5, 6, 0, 7] rfl))
              · have hf := ineg h18 hf
                refine lv_aload_n hx hb dX7_serve_153 rfl (lv_at hl 3 rfl) ?_
                refine va_get (D := D) (ci := 6) (v := .ref a_now) (C := RX7) (T := TX7) (N := 8) hx hb hts (fun w h => mb (iX7 w h)) hown hK hP 0 rfl rfl 0 (by decide) (hts _ (mb tb_270)) (fun _ h9 => h9) rfl dX7_serve_154 ?_
                refine va_get (D := D) (ci := 5) (v := .ref a_now_shelves) (C := RX6) (T := TX6) (N := 9) hx hb hts (fun w h => mb (iX6 w h)) hown hK hP 1 rfl rfl 6 (by decide) (hts _ (mb tb_169)) (fun _ h9 => h9) rfl dX7_serve_157 ?_
                refine lv_iload hx hb dX7_serve_160 (lv_at hl 2 rfl) ?_
                refine lv_iload hx hb dX7_serve_162 (lv_at hl 1 rfl) ?_
                obtain ⟨o21, o22, o23, o24, hc20, hf⟩ := ob4 hf
                refine rw_callv (va_runV (As := [.int (c_now_lots_byLast n5.toNatClampNeg), .int (if (c_rest (c_now_lots_byLast n5.toNatClampNeg).toNatClampNeg) < (n3 - n4) then (c_rest (c_now_lots_byLast n5.toNatClampNeg).toNatClampNeg) else (n3 - n4))]) (rest := []) ⟨hx, hb, hml, hown, hts⟩ (k_X5_pick l hl0 D cI cJ cZ cS B0 H.size a_now_shelves a_now_shelves_lot a_now_shelves_pieces a_now_shelves_mark a_now_shelves_byDistance c_now_shelves_lanes c_now_shelves_positions c_now_shelves_room c_now_shelves_gap c_now_shelves_places c_now_shelves_picked c_now_shelves_lot c_now_shelves_pieces c_now_shelves_mark c_now_shelves_byDistance (c_now_lots_byLast n5.toNatClampNeg) (if (c_rest (c_now_lots_byLast n5.toNatClampNeg).toNatClampNeg) < (n3 - n4) then (c_rest (c_now_lots_byLast n5.toNatClampNeg).toNatClampNeg) else (n3 - n4)) o21 o22 o23 o24 hc20) (cwV 2 hts (gV tb_367 tb_368 tb_369 tb_3 tb_370) rfl rfl rfl (by decide +kernel) ⟨Nat.le_of_ble_eq_true rfl, Nat.le_of_ble_eq_true rfl⟩) ⟨wp_blind, va_recv hK hP (ci := 4) (q0 := 2) rfl rfl, wp_pre (hP.sub [2, 3, 4, 5, 6] rfl) hK (va_D.sub (hD.weaken (fun _ _ _ h9 => hAB _ h9)) [2, 3, 4, 5, 6] rfl rfl) (hBn _ _ hS) (hEn _ _ hS)⟩ rfl rfl hl.1 rfl (lv_room (Nat.le_of_ble_eq_true rfl)) dX7_serve_164 ⟨Nat.le_of_ble_eq_true rfl, Nat.le_of_ble_eq_true rfl⟩) hP hD hS hA [oX7 a0 a_now a_past c_acts c_nextSlot a_plan a_picker a_rest a_packed, oX6 a_now c_now_today c_now_products c_now_itemCount a_now_items a_now_books a_now_terms a_now_shelves a_now_lots a_now_orders, oX5 a_now_shelves c_now_shelves_lanes c_now_shelves_positions c_now_shelves_room c_now_shelves_gap c_now_shelves_places o21 a_now_shelves_lot a_now_shelves_pieces a_now_shelves_mark a_now_shelves_byDistance, rI cI a_now_shelves_lot 48 o22, rI cI a_now_shelves_pieces 48 o23, rI cI a_now_shelves_mark 48 o24, rI cI a_now_shelves_byDistance 48 c_now_shelves_byDistance, oX1 a_now_lots c_now_lots_count a_now_lots_product a_now_lots_last a_now_lots_cost a_now_lots_state a_now_lots_byLast, rI cI a_now_lots_product 24 c_now_lots_product, rI cI a_now_lots_last 24 c_now_lots_last, rI cI a_now_lots_state 24 c_now_lots_state, rI cI a_now_lots_byLast 24 c_now_lots_byLast, oX2 a_now_orders c_now_orders_count c_now_orders_gifts a_now_orders_customer a_now_orders_product a_now_orders_open a_now_orders_due a_now_orders_life a_now_orders_byDue a_now_orders_had a_now_orders_stamps, rI cI a_now_orders_product 40 c_now_orders_product, rI cI a_now_orders_open 40 c_now_orders_open, rI cI a_now_orders_due 40 c_now_orders_due, rI cI a_now_orders_life 40 c_now_orders_life, rI cI a_now_orders_had 960 c_now_orders_had, rI cI a_now_orders_stamps 960 c_now_orders_stamps, rI cI a_rest 24 (upd c_rest (c_now_lots_byLast n5.toNatClampNeg).toNatClampNeg ((c_rest (c_now_lots_byLast n5.toNatClampNeg).toNatClampNeg) - (if (c_rest (c_now_lots_byLast n5.toNatClampNeg).toNatClampNeg) < (n3 - n4) then (c_rest (c_now_lots_byLast n5.toNatClampNeg).toNatClampNeg) else (n3 - n4))))] 20 [2, 3, 4, 5, 6] [0, 1, 7, 8, 9, 10, 11, 12, 13, 14, 15, 16, 17, 18, 19] rfl rfl rfl rfl (by decide +kernel) rfl (fun H locs hP hD hS => ?_)
                refine lv_aload_n hx hb dX7_serve_167 rfl (lv_at hl 3 rfl) ?_
                refine va_get (D := D) (ci := 6) (v := .ref a_now) (C := RX7) (T := TX7) (N := 8) hx hb hts (fun w h => mb (iX7 w h)) hown hK hP 0 rfl rfl 0 (by decide) (hts _ (mb tb_270)) (fun _ h9 => h9) rfl dX7_serve_168 ?_
                refine va_get (D := D) (ci := 5) (v := .ref a_now_orders) (C := RX6) (T := TX6) (N := 9) hx hb hts (fun w h => mb (iX6 w h)) hown hK hP 1 rfl rfl 8 (by decide) (hts _ (mb tb_173)) (fun _ h9 => h9) rfl dX7_serve_171 ?_
                refine lv_iload_n hx hb dX7_serve_174 rfl (lv_at hl 4 rfl) ?_
                refine lv_iload hx hb dX7_serve_175 (lv_at hl 2 rfl) ?_
                refine lv_iload hx hb dX7_serve_177 (lv_at hl 1 rfl) ?_
                obtain ⟨o27, o28, o29, o30, hc26, hf⟩ := ob4 hf
                refine rw_callv (va_runV (As := [.int n1, .int (c_now_lots_byLast n5.toNatClampNeg), .int (if (c_rest (c_now_lots_byLast n5.toNatClampNeg).toNatClampNeg) < (n3 - n4) then (c_rest (c_now_lots_byLast n5.toNatClampNeg).toNatClampNeg) else (n3 - n4))]) (rest := []) ⟨hx, hb, hml, hown, hts⟩ (k_X2_give l hl0 D cI cJ cZ cS B0 H.size a_now_orders a_now_orders_customer a_now_orders_product a_now_orders_open a_now_orders_due a_now_orders_life a_now_orders_byDue a_now_orders_had a_now_orders_stamps c_now_orders_count c_now_orders_gifts c_now_orders_open c_now_orders_had c_now_orders_stamps n1 (c_now_lots_byLast n5.toNatClampNeg) (if (c_rest (c_now_lots_byLast n5.toNatClampNeg).toNatClampNeg) < (n3 - n4) then (c_rest (c_now_lots_byLast n5.toNatClampNeg).toNatClampNeg) else (n3 - n4)) o27 o28 o29 o30 hc26) (cwV 3 hts (gV tb_375 tb_376 tb_377 tb_5 tb_378) rfl rfl rfl (by decide +kernel) ⟨Nat.le_of_ble_eq_true rfl, Nat.le_of_ble_eq_true rfl⟩) ⟨wp_blind, va_recv hK hP (ci := 1) (q0 := 12) rfl rfl, wp_pre (hP.sub [12, 14, 17, 18] rfl) hK (va_D.sub (hD.weaken (fun _ _ _ h9 => hAB _ h9)) [12, 14, 17, 18] rfl rfl) (hBn _ _ hS) (hEn _ _ hS)⟩ rfl rfl hl.1 rfl (lv_room (Nat.le_of_ble_eq_true rfl)) dX7_serve_179 ⟨Nat.le_of_ble_eq_true rfl, Nat.le_of_ble_eq_true rfl⟩) hP hD hS hA [oX7 a0 a_now a_past c_acts c_nextSlot a_plan a_picker a_rest a_packed, oX6 a_now c_now_today c_now_products c_now_itemCount a_now_items a_now_books a_now_terms a_now_shelves a_now_lots a_now_orders, oX5 a_now_shelves c_now_shelves_lanes c_now_shelves_positions c_now_shelves_room c_now_shelves_gap c_now_shelves_places o21 a_now_shelves_lot a_now_shelves_pieces a_now_shelves_mark a_now_shelves_byDistance, rI cI a_now_shelves_lot 48 o22, rI cI a_now_shelves_pieces 48 o23, rI cI a_now_shelves_mark 48 o24, rI cI a_now_shelves_byDistance 48 c_now_shelves_byDistance, oX1 a_now_lots c_now_lots_count a_now_lots_product a_now_lots_last a_now_lots_cost a_now_lots_state a_now_lots_byLast, rI cI a_now_lots_product 24 c_now_lots_product, rI cI a_now_lots_last 24 c_now_lots_last, rI cI a_now_lots_state 24 c_now_lots_state, rI cI a_now_lots_byLast 24 c_now_lots_byLast, oX2 a_now_orders c_now_orders_count o27 a_now_orders_customer a_now_orders_product a_now_orders_open a_now_orders_due a_now_orders_life a_now_orders_byDue a_now_orders_had a_now_orders_stamps, rI cI a_now_orders_product 40 c_now_orders_product, rI cI a_now_orders_open 40 o28, rI cI a_now_orders_due 40 c_now_orders_due, rI cI a_now_orders_life 40 c_now_orders_life, rI cI a_now_orders_had 960 o29, rI cI a_now_orders_stamps 960 o30, rI cI a_rest 24 (upd c_rest (c_now_lots_byLast n5.toNatClampNeg).toNatClampNeg ((c_rest (c_now_lots_byLast n5.toNatClampNeg).toNatClampNeg) - (if (c_rest (c_now_lots_byLast n5.toNatClampNeg).toNatClampNeg) < (n3 - n4) then (c_rest (c_now_lots_byLast n5.toNatClampNeg).toNatClampNeg) else (n3 - n4))))] 20 [12, 14, 17, 18] [0, 1, 2, 3, 4, 5, 6, 7, 8, 9, 10, 11, 13, 15, 16, 19] rfl rfl rfl rfl (by decide +kernel) rfl (fun H locs hP hD hS => ?_)
                exact (hWW _ _ _ _ _).mp (hJ182 _ _ _ _ _ _ _ _ _ _ _ hf _ _ ls hP hD hS (lv_sub hl [3, 4, 5, 6, 0, 7] rfl))
  refine (hWW _ _ _ _ _).mpr ?_
  refine lv_aload_n hx hb dX7_serve_0 rfl (lv_at hl 0 rfl) ?_
  refine va_get (D := D) (ci := 6) (v := .ref a_now) (C := RX7) (T := TX7) (N := 8) hx hb hts (fun w h => mb (iX7 w h)) hown hK hP 0 rfl rfl 0 (by decide) (hts _ (mb tb_270)) (fun _ h9 => h9) rfl dX7_serve_1 ?_
  refine va_get (D := D) (ci := 5) (v := .ref a_now_orders) (C := RX6) (T := TX6) (N := 9) hx hb hts (fun w h => mb (iX6 w h)) hown hK hP 1 rfl rfl 8 (by decide) (hts _ (mb tb_173)) (fun _ h9 => h9) rfl dX7_serve_4 ?_
  refine lv_iload_n hx hb dX7_serve_7 rfl (lv_at hl 1 rfl) ?_
  obtain ⟨r1, hc2, hf⟩ := ob1 hf
  refine ro_calli (r := r1) (va_runV (As := [.int v1]) (rest := []) ⟨hx, hb, hml, hown, hts⟩ (k_X2_exists l hl0 D cI cJ cZ cS B0 H a_now_orders a_now_orders_customer a_now_orders_product a_now_orders_open a_now_orders_due a_now_orders_life a_now_orders_byDue a_now_orders_had a_now_orders_stamps c_now_orders_count c_now_orders_gifts v1 r1 hc2) (cwV 1 hts (gV tb_350 tb_351 tb_352 tb_5 tb_353) rfl rfl rfl (by decide +kernel) ⟨Nat.le_of_ble_eq_true rfl, Nat.le_of_ble_eq_true rfl⟩) ⟨rp_blind, va_recv hK hP (ci := 1) (q0 := 12) rfl rfl, rp_pre (hP.sub [12] rfl) hK (hBn _ _ hS) (hEn _ _ hS)⟩ rfl rfl hl.1 rfl (lv_room (Nat.le_of_ble_eq_true rfl)) dX7_serve_8 ⟨Nat.le_of_ble_eq_true rfl, Nat.le_of_ble_eq_true rfl⟩) ?_
  refine lv_if_ne (tgt := 16) hx hb dX7_serve_11 (by decide) (fun h3 => ?_) (fun h3 => ?_)
  · have hf := ineg h3 hf
    refine lv_aload_n hx hb dX7_serve_16 rfl (lv_at hl 0 rfl) ?_
    refine va_get (D := D) (ci := 6) (v := .ref a_now) (C := RX7) (T := TX7) (N := 8) hx hb hts (fun w h => mb (iX7 w h)) hown hK hP 0 rfl rfl 0 (by decide) (hts _ (mb tb_270)) (fun _ h9 => h9) rfl dX7_serve_17 ?_
    refine va_get (D := D) (ci := 5) (v := .ref a_now_orders) (C := RX6) (T := TX6) (N := 9) hx hb hts (fun w h => mb (iX6 w h)) hown hK hP 1 rfl rfl 8 (by decide) (hts _ (mb tb_173)) (fun _ h9 => h9) rfl dX7_serve_20 ?_
    refine va_get (D := D) (ci := 1) (v := .ref a_now_orders_open) (C := RX2) (T := TX2) (N := 10) hx hb hts (fun w h => mb (iX2 w h)) hown hK hP 12 rfl rfl 4 (by decide) (hts _ (mb tb_127)) (fun _ h9 => h9) rfl dX7_serve_23 ?_
    refine lv_iload_n hx hb dX7_serve_26 rfl (lv_at hl 1 rfl) ?_
    obtain ⟨h4, hf⟩ := ob_d hf
    refine va_iald hx hb hK hP 14 0 rfl rfl h4 dX7_serve_27 ?_
    refine lv_istore_n (lv' := [(3, .int (c_now_orders_open v1.toNatClampNeg)), (0, .ref a0), (1, .int v1), (2, .int v2)]) hx hb dX7_serve_28 rfl hl (by decide) rfl (fun ls hl => ?_)
    refine lv_iconst (v := 0) hx hb dX7_serve_29 (by decide) ?_
    refine lv_istore (lv' := [(4, .int 0), (3, .int (c_now_orders_open v1.toNatClampNeg)), (0, .ref a0), (1, .int v1), (2, .int v2)]) hx hb dX7_serve_30 hl (by decide) rfl (fun ls hl => ?_)
    refine lv_iconst (v := 0) hx hb dX7_serve_32 (by decide) ?_
    refine lv_istore (lv' := [(5, .int 0), (4, .int 0), (3, .int (c_now_orders_open v1.toNatClampNeg)), (0, .ref a0), (1, .int v1), (2, .int v2)]) hx hb dX7_serve_33 hl (by decide) rfl (fun ls hl => ?_)
    obtain ⟨m32, c33, c34, c35, c36, c37, c38, c39, c40, c41, hc31, hf⟩ := ob10 hf
    refine (hWW _ _ _ _ _).mp (hL35 fu _ _ _ _ _ _ _ _ _ _ _ _ _ _ _ _ _ _ _ _ _ _ _ _ hc31 (fun H locs ls hP hD hS hl => ?_) _ _ ls hP hD hS (lv_sub hl [3, 4, 5, 2, 1, 0] rfl))
    · refine (hWW _ _ _ _ _).mpr ?_
      refine lv_iload hx hb dX7_serve_188 (lv_at hl 0 rfl) ?_
      cases hf
      refine W.widen (k := 0) (n := 0) (Nat.le_of_ble_eq_true rfl) (Nat.le_of_ble_eq_true rfl) ?_
      exact W.iret hx hb hr (fun t ht hW => ⟨⟨_, (), rfl, rfl, (by show va_P D vwCl _ t.heap; rw [ht]; exact hP)⟩, hS.F ht⟩) hS.2.2 dX7_serve_190
  · have hf := ipos h3 hf
    refine lv_iconst (v := 0) hx hb dX7_serve_14 (by decide) ?_
    cases hf
    refine W.widen (k := 0) (n := 0) (Nat.le_of_ble_eq_true rfl) (Nat.le_of_ble_eq_true rfl) ?_
    exact W.iret hx hb hr (fun t ht hW => ⟨⟨_, (), rfl, rfl, (by show va_P D vwCl _ t.heap; rw [ht]; exact hP)⟩, hS.F ht⟩) hS.2.2 dX7_serve_15
def f_X7_leftOpen_L18_J86 (n1 : Int32) (n2 : Int32) (n3 : Int32) (c_now_shelves_places : Int32) (c_now_shelves_picked : Int64) (c_now_shelves_lot : Nat → Int32) (c_now_shelves_pieces : Nat → Int32) (c_now_shelves_mark : Nat → Int32) (c_now_shelves_byDistance : Nat → Int32) (c_now_lots_count : Int32) (c_now_lots_product : Nat → Int32) (c_now_lots_last : Nat → Int32) (c_now_lots_state : Nat → Int32) (c_now_lots_byLast : Nat → Int32) (c_now_orders_count : Int32) (c_now_orders_gifts : Int32) (c_now_orders_product : Nat → Int32) (c_now_orders_open : Nat → Int32) (c_now_orders_due : Nat → Int32) (c_now_orders_life : Nat → Int32) (c_now_orders_byDue : Nat → Int32) (c_now_orders_had : Nat → Int32) (c_now_orders_stamps : Nat → Int32) (c_rest : Nat → Int32) : Option ((Int32 × Int32 × Int64 × (Nat → Int32) × (Nat → Int32) × (Nat → Int32) × Int32 × (Nat → Int32) × (Nat → Int32) × (Nat → Int32) × (Nat → Int32)) ⊕ (Int32 × Int64 × (Nat → Int32) × (Nat → Int32) × (Nat → Int32) × Int32 × (Nat → Int32) × (Nat → Int32) × (Nat → Int32) × (Nat → Int32))) :=
  some (.inl (n2, n3 + 1, c_now_shelves_picked, c_now_shelves_lot, c_now_shelves_pieces, c_now_shelves_mark, c_now_orders_gifts, c_now_orders_open, c_now_orders_had, c_now_orders_stamps, c_rest))
def f_X7_leftOpen_L18 (n1 : Int32) (c_now_shelves_places : Int32) (c_now_shelves_byDistance : Nat → Int32) (c_now_lots_count : Int32) (c_now_lots_product : Nat → Int32) (c_now_lots_last : Nat → Int32) (c_now_lots_state : Nat → Int32) (c_now_lots_byLast : Nat → Int32) (c_now_orders_count : Int32) (c_now_orders_product : Nat → Int32) (c_now_orders_due : Nat → Int32) (c_now_orders_life : Nat → Int32) (c_now_orders_byDue : Nat → Int32) (n2 : Int32) (n3 : Int32) (c_now_shelves_picked : Int64) (c_now_shelves_lot : Nat → Int32) (c_now_shelves_pieces : Nat → Int32) (c_now_shelves_mark : Nat → Int32) (c_now_orders_gifts : Int32) (c_now_orders_open : Nat → Int32) (c_now_orders_had : Nat → Int32) (c_now_orders_stamps : Nat → Int32) (c_rest : Nat → Int32) : Option ((Int32 × Int32 × Int64 × (Nat → Int32) × (Nat → Int32) × (Nat → Int32) × Int32 × (Nat → Int32) × (Nat → Int32) × (Nat → Int32) × (Nat → Int32)) ⊕ (Int32 × Int64 × (Nat → Int32) × (Nat → Int32) × (Nat → Int32) × Int32 × (Nat → Int32) × (Nat → Int32) × (Nat → Int32) × (Nat → Int32))) :=
  (if c_now_orders_count ≤ n3 then some (.inr (n2, c_now_shelves_picked, c_now_shelves_lot, c_now_shelves_pieces, c_now_shelves_mark, c_now_orders_gifts, c_now_orders_open, c_now_orders_had, c_now_orders_stamps, c_rest))
  else gd n3 40 (bnd1 (f_X2_isOf (c_now_orders_byDue n3.toNatClampNeg) n1 c_now_orders_count c_now_orders_product) (fun r6 =>
  ((if r6 = 0 then f_X7_leftOpen_L18_J86 n1 n2 n3 c_now_shelves_places c_now_shelves_picked c_now_shelves_lot c_now_shelves_pieces c_now_shelves_mark c_now_shelves_byDistance c_now_lots_count c_now_lots_product c_now_lots_last c_now_lots_state c_now_lots_byLast c_now_orders_count c_now_orders_gifts c_now_orders_product c_now_orders_open c_now_orders_due c_now_orders_life c_now_orders_byDue c_now_orders_had c_now_orders_stamps c_rest
  else gd (c_now_orders_byDue n3.toNatClampNeg) 40 (bnd10 (f_X7_serve (c_now_orders_byDue n3.toNatClampNeg) 0 c_now_shelves_places c_now_shelves_picked c_now_shelves_lot c_now_shelves_pieces c_now_shelves_mark c_now_shelves_byDistance c_now_lots_count c_now_lots_product c_now_lots_last c_now_lots_state c_now_lots_byLast c_now_orders_count c_now_orders_gifts c_now_orders_product c_now_orders_open c_now_orders_due c_now_orders_life c_now_orders_had c_now_orders_stamps c_rest) (fun r10 o12 o13 o14 o15 o16 o17 o18 o19 o20 =>
  (f_X7_leftOpen_L18_J86 n1 (n2 + ((c_now_orders_open (c_now_orders_byDue n3.toNatClampNeg).toNatClampNeg) - r10)) n3 c_now_shelves_places o12 o13 o14 o15 c_now_shelves_byDistance c_now_lots_count c_now_lots_product c_now_lots_last c_now_lots_state c_now_lots_byLast c_now_orders_count o16 c_now_orders_product o17 c_now_orders_due c_now_orders_life c_now_orders_byDue o18 o19 o20))))))))
def f_X7_leftOpen (v1 : Int32) (c_now_shelves_places : Int32) (c_now_shelves_picked : Int64) (c_now_shelves_lot : Nat → Int32) (c_now_shelves_pieces : Nat → Int32) (c_now_shelves_mark : Nat → Int32) (c_now_shelves_byDistance : Nat → Int32) (c_now_lots_count : Int32) (c_now_lots_product : Nat → Int32) (c_now_lots_last : Nat → Int32) (c_now_lots_state : Nat → Int32) (c_now_lots_byLast : Nat → Int32) (c_now_orders_count : Int32) (c_now_orders_gifts : Int32) (c_now_orders_product : Nat → Int32) (c_now_orders_open : Nat → Int32) (c_now_orders_due : Nat → Int32) (c_now_orders_life : Nat → Int32) (c_now_orders_byDue : Nat → Int32) (c_now_orders_had : Nat → Int32) (c_now_orders_stamps : Nat → Int32) (c_rest : Nat → Int32) : Option (Int32 × Int64 × (Nat → Int32) × (Nat → Int32) × (Nat → Int32) × Int32 × (Nat → Int32) × (Nat → Int32) × (Nat → Int32) × (Nat → Int32)) :=
  bnd1 (f_X5_countLots c_now_shelves_places c_now_shelves_lot c_now_shelves_pieces c_rest) (fun o3 =>
  ((bnd10 (loop (fun z => f_X7_leftOpen_L18 v1 c_now_shelves_places c_now_shelves_byDistance c_now_lots_count c_now_lots_product c_now_lots_last c_now_lots_state c_now_lots_byLast c_now_orders_count c_now_orders_product c_now_orders_due c_now_orders_life c_now_orders_byDue z.1 z.2.1 z.2.2.1 z.2.2.2.1 z.2.2.2.2.1 z.2.2.2.2.2.1 z.2.2.2.2.2.2.1 z.2.2.2.2.2.2.2.1 z.2.2.2.2.2.2.2.2.1 z.2.2.2.2.2.2.2.2.2.1 z.2.2.2.2.2.2.2.2.2.2) fu (0, 0, c_now_shelves_picked, c_now_shelves_lot, c_now_shelves_pieces, c_now_shelves_mark, c_now_orders_gifts, c_now_orders_open, c_now_orders_had, c_now_orders_stamps, o3)) fun m22 c23 c24 c25 c26 c27 c28 c29 c30 c31 =>
  some (m22, c23, c24, c25, c26, c27, c28, c29, c30, c31))))
set_option maxHeartbeats 4000000 in
set_option maxRecDepth 100000 in
theorem k_X7_leftOpen (l : Launch) (hl0 : l.stackTraces = false) (D : va_G) (cI cJ cZ cS : ClassId) (B0 : Nat) (sz : Nat) (a0 a_now a_past a_plan a_picker a_rest a_packed a_now_items a_now_books a_now_terms a_now_shelves a_now_lots a_now_orders a_now_shelves_lot a_now_shelves_pieces a_now_shelves_mark a_now_shelves_byDistance a_now_lots_product a_now_lots_last a_now_lots_cost a_now_lots_state a_now_lots_byLast a_now_orders_customer a_now_orders_product a_now_orders_open a_now_orders_due a_now_orders_life a_now_orders_byDue a_now_orders_had a_now_orders_stamps : Nat) (c_acts : Int32) (c_nextSlot : Int32) (c_now_today : Int32) (c_now_products : Int32) (c_now_itemCount : Int32) (c_now_shelves_lanes : Int32) (c_now_shelves_positions : Int32) (c_now_shelves_room : Int32) (c_now_shelves_gap : Int32) (c_now_shelves_places : Int32) (c_now_shelves_picked : Int64) (c_now_shelves_lot : Nat → Int32) (c_now_shelves_pieces : Nat → Int32) (c_now_shelves_mark : Nat → Int32) (c_now_shelves_byDistance : Nat → Int32) (c_now_lots_count : Int32) (c_now_lots_product : Nat → Int32) (c_now_lots_last : Nat → Int32) (c_now_lots_state : Nat → Int32) (c_now_lots_byLast : Nat → Int32) (c_now_orders_count : Int32) (c_now_orders_gifts : Int32) (c_now_orders_product : Nat → Int32) (c_now_orders_open : Nat → Int32) (c_now_orders_due : Nat → Int32) (c_now_orders_life : Nat → Int32) (c_now_orders_byDue : Nat → Int32) (c_now_orders_had : Nat → Int32) (c_now_orders_stamps : Nat → Int32) (c_rest : Nat → Int32) (v1 : Int32) (r9 : Int32) (oc_now_shelves_picked : Int64) (oc_now_shelves_lot : Nat → Int32) (oc_now_shelves_pieces : Nat → Int32) (oc_now_shelves_mark : Nat → Int32) (oc_now_orders_gifts : Int32) (oc_now_orders_open : Nat → Int32) (oc_now_orders_had : Nat → Int32) (oc_now_orders_stamps : Nat → Int32) (oc_rest : Nat → Int32)  (hf : f_X7_leftOpen v1 c_now_shelves_places c_now_shelves_picked c_now_shelves_lot c_now_shelves_pieces c_now_shelves_mark c_now_shelves_byDistance c_now_lots_count c_now_lots_product c_now_lots_last c_now_lots_state c_now_lots_byLast c_now_orders_count c_now_orders_gifts c_now_orders_product c_now_orders_open c_now_orders_due c_now_orders_life c_now_orders_byDue c_now_orders_had c_now_orders_stamps c_rest = some (r9, oc_now_shelves_picked, oc_now_shelves_lot, oc_now_shelves_pieces, oc_now_shelves_mark, oc_now_orders_gifts, oc_now_orders_open, oc_now_orders_had, oc_now_orders_stamps, oc_rest)) : Met l yX7_leftOpen (wz yX7_leftOpen cX7_leftOpen 5 (some .int)) ({ frames := 4, cells := 0, slots := 0, locals := 98 }) (va_Pc [.ref a0, .int v1] (wp D cI cJ cZ cS B0 [oX7 a0 a_now a_past c_acts c_nextSlot a_plan a_picker a_rest a_packed, oX6 a_now c_now_today c_now_products c_now_itemCount a_now_items a_now_books a_now_terms a_now_shelves a_now_lots a_now_orders, oX5 a_now_shelves c_now_shelves_lanes c_now_shelves_positions c_now_shelves_room c_now_shelves_gap c_now_shelves_places c_now_shelves_picked a_now_shelves_lot a_now_shelves_pieces a_now_shelves_mark a_now_shelves_byDistance, rI cI a_now_shelves_lot 48 c_now_shelves_lot, rI cI a_now_shelves_pieces 48 c_now_shelves_pieces, rI cI a_now_shelves_mark 48 c_now_shelves_mark, rI cI a_now_shelves_byDistance 48 c_now_shelves_byDistance, oX1 a_now_lots c_now_lots_count a_now_lots_product a_now_lots_last a_now_lots_cost a_now_lots_state a_now_lots_byLast, rI cI a_now_lots_product 24 c_now_lots_product, rI cI a_now_lots_last 24 c_now_lots_last, rI cI a_now_lots_state 24 c_now_lots_state, rI cI a_now_lots_byLast 24 c_now_lots_byLast, oX2 a_now_orders c_now_orders_count c_now_orders_gifts a_now_orders_customer a_now_orders_product a_now_orders_open a_now_orders_due a_now_orders_life a_now_orders_byDue a_now_orders_had a_now_orders_stamps, rI cI a_now_orders_product 40 c_now_orders_product, rI cI a_now_orders_open 40 c_now_orders_open, rI cI a_now_orders_due 40 c_now_orders_due, rI cI a_now_orders_life 40 c_now_orders_life, rI cI a_now_orders_byDue 40 c_now_orders_byDue, rI cI a_now_orders_had 960 c_now_orders_had, rI cI a_now_orders_stamps 960 c_now_orders_stamps, rI cI a_rest 24 c_rest] sz)) (va_Qi (fun (r2 : Int32) (_ : Unit) => r2 = r9) (fun _ t => va_P D vwCl [oX7 a0 a_now a_past c_acts c_nextSlot a_plan a_picker a_rest a_packed, oX6 a_now c_now_today c_now_products c_now_itemCount a_now_items a_now_books a_now_terms a_now_shelves a_now_lots a_now_orders, oX5 a_now_shelves c_now_shelves_lanes c_now_shelves_positions c_now_shelves_room c_now_shelves_gap c_now_shelves_places oc_now_shelves_picked a_now_shelves_lot a_now_shelves_pieces a_now_shelves_mark a_now_shelves_byDistance, rI cI a_now_shelves_lot 48 oc_now_shelves_lot, rI cI a_now_shelves_pieces 48 oc_now_shelves_pieces, rI cI a_now_shelves_mark 48 oc_now_shelves_mark, rI cI a_now_shelves_byDistance 48 c_now_shelves_byDistance, oX1 a_now_lots c_now_lots_count a_now_lots_product a_now_lots_last a_now_lots_cost a_now_lots_state a_now_lots_byLast, rI cI a_now_lots_product 24 c_now_lots_product, rI cI a_now_lots_last 24 c_now_lots_last, rI cI a_now_lots_state 24 c_now_lots_state, rI cI a_now_lots_byLast 24 c_now_lots_byLast, oX2 a_now_orders c_now_orders_count oc_now_orders_gifts a_now_orders_customer a_now_orders_product a_now_orders_open a_now_orders_due a_now_orders_life a_now_orders_byDue a_now_orders_had a_now_orders_stamps, rI cI a_now_orders_product 40 c_now_orders_product, rI cI a_now_orders_open 40 oc_now_orders_open, rI cI a_now_orders_due 40 c_now_orders_due, rI cI a_now_orders_life 40 c_now_orders_life, rI cI a_now_orders_byDue 40 c_now_orders_byDue, rI cI a_now_orders_had 960 oc_now_orders_had, rI cI a_now_orders_stamps 960 oc_now_orders_stamps, rI cI a_rest 24 oc_rest] t.heap) (va_A [oX7 a0 a_now a_past c_acts c_nextSlot a_plan a_picker a_rest a_packed, oX6 a_now c_now_today c_now_products c_now_itemCount a_now_items a_now_books a_now_terms a_now_shelves a_now_lots a_now_orders, oX5 a_now_shelves c_now_shelves_lanes c_now_shelves_positions c_now_shelves_room c_now_shelves_gap c_now_shelves_places c_now_shelves_picked a_now_shelves_lot a_now_shelves_pieces a_now_shelves_mark a_now_shelves_byDistance, rI cI a_now_shelves_lot 48 c_now_shelves_lot, rI cI a_now_shelves_pieces 48 c_now_shelves_pieces, rI cI a_now_shelves_mark 48 c_now_shelves_mark, rI cI a_now_shelves_byDistance 48 c_now_shelves_byDistance, oX1 a_now_lots c_now_lots_count a_now_lots_product a_now_lots_last a_now_lots_cost a_now_lots_state a_now_lots_byLast, rI cI a_now_lots_product 24 c_now_lots_product, rI cI a_now_lots_last 24 c_now_lots_last, rI cI a_now_lots_state 24 c_now_lots_state, rI cI a_now_lots_byLast 24 c_now_lots_byLast, oX2 a_now_orders c_now_orders_count c_now_orders_gifts a_now_orders_customer a_now_orders_product a_now_orders_open a_now_orders_due a_now_orders_life a_now_orders_byDue a_now_orders_had a_now_orders_stamps, rI cI a_now_orders_product 40 c_now_orders_product, rI cI a_now_orders_open 40 c_now_orders_open, rI cI a_now_orders_due 40 c_now_orders_due, rI cI a_now_orders_life 40 c_now_orders_life, rI cI a_now_orders_byDue 40 c_now_orders_byDue, rI cI a_now_orders_had 960 c_now_orders_had, rI cI a_now_orders_stamps 960 c_now_orders_stamps, rI cI a_rest 24 c_rest] sz)) 0 0 (va_A [oX7 a0 a_now a_past c_acts c_nextSlot a_plan a_picker a_rest a_packed, oX6 a_now c_now_today c_now_products c_now_itemCount a_now_items a_now_books a_now_terms a_now_shelves a_now_lots a_now_orders, oX5 a_now_shelves c_now_shelves_lanes c_now_shelves_positions c_now_shelves_room c_now_shelves_gap c_now_shelves_places c_now_shelves_picked a_now_shelves_lot a_now_shelves_pieces a_now_shelves_mark a_now_shelves_byDistance, rI cI a_now_shelves_lot 48 c_now_shelves_lot, rI cI a_now_shelves_pieces 48 c_now_shelves_pieces, rI cI a_now_shelves_mark 48 c_now_shelves_mark, rI cI a_now_shelves_byDistance 48 c_now_shelves_byDistance, oX1 a_now_lots c_now_lots_count a_now_lots_product a_now_lots_last a_now_lots_cost a_now_lots_state a_now_lots_byLast, rI cI a_now_lots_product 24 c_now_lots_product, rI cI a_now_lots_last 24 c_now_lots_last, rI cI a_now_lots_state 24 c_now_lots_state, rI cI a_now_lots_byLast 24 c_now_lots_byLast, oX2 a_now_orders c_now_orders_count c_now_orders_gifts a_now_orders_customer a_now_orders_product a_now_orders_open a_now_orders_due a_now_orders_life a_now_orders_byDue a_now_orders_had a_now_orders_stamps, rI cI a_now_orders_product 40 c_now_orders_product, rI cI a_now_orders_open 40 c_now_orders_open, rI cI a_now_orders_due 40 c_now_orders_due, rI cI a_now_orders_life 40 c_now_orders_life, rI cI a_now_orders_byDue 40 c_now_orders_byDue, rI cI a_now_orders_had 960 c_now_orders_had, rI cI a_now_orders_stamps 960 c_now_orders_stamps, rI cI a_rest 24 c_rest] sz) := by
  refine Met.ofW (cc := cX7_leftOpen) (maxL := 5) (ret := (some .int)) (by decide) rfl ?_
  intro p e s m args below meth c s₁ B hml hv
  obtain ⟨rfl, hsz, hP, hK, hD0, hB0, hE⟩ := hv
  subst hsz
  have hx := B.exec
  have hb := B.bytes
  have hr := B.returns
  have hts := atoms_spec (ws := (wz yX7_leftOpen cX7_leftOpen 5 (some .int))) B.pre
  have hown : s.vm.findClass RX7 = some m.cls := findClass_of_methodNamed B.named
  have hlocks := B.notSynchronized
  have hD := hD0.self (sz := s.heap.size)
  have hAB : ∀ q : Nat, va_A [oX7 a0 a_now a_past c_acts c_nextSlot a_plan a_picker a_rest a_packed, oX6 a_now c_now_today c_now_products c_now_itemCount a_now_items a_now_books a_now_terms a_now_shelves a_now_lots a_now_orders, oX5 a_now_shelves c_now_shelves_lanes c_now_shelves_positions c_now_shelves_room c_now_shelves_gap c_now_shelves_places c_now_shelves_picked a_now_shelves_lot a_now_shelves_pieces a_now_shelves_mark a_now_shelves_byDistance, rI cI a_now_shelves_lot 48 c_now_shelves_lot, rI cI a_now_shelves_pieces 48 c_now_shelves_pieces, rI cI a_now_shelves_mark 48 c_now_shelves_mark, rI cI a_now_shelves_byDistance 48 c_now_shelves_byDistance, oX1 a_now_lots c_now_lots_count a_now_lots_product a_now_lots_last a_now_lots_cost a_now_lots_state a_now_lots_byLast, rI cI a_now_lots_product 24 c_now_lots_product, rI cI a_now_lots_last 24 c_now_lots_last, rI cI a_now_lots_state 24 c_now_lots_state, rI cI a_now_lots_byLast 24 c_now_lots_byLast, oX2 a_now_orders c_now_orders_count c_now_orders_gifts a_now_orders_customer a_now_orders_product a_now_orders_open a_now_orders_due a_now_orders_life a_now_orders_byDue a_now_orders_had a_now_orders_stamps, rI cI a_now_orders_product 40 c_now_orders_product, rI cI a_now_orders_open 40 c_now_orders_open, rI cI a_now_orders_due 40 c_now_orders_due, rI cI a_now_orders_life 40 c_now_orders_life, rI cI a_now_orders_byDue 40 c_now_orders_byDue, rI cI a_now_orders_had 960 c_now_orders_had, rI cI a_now_orders_stamps 960 c_now_orders_stamps, rI cI a_rest 24 c_rest] s.heap.size q → B0 ≤ q := va_A_B hD0 hB0
  generalize hAe : va_A [oX7 a0 a_now a_past c_acts c_nextSlot a_plan a_picker a_rest a_packed, oX6 a_now c_now_today c_now_products c_now_itemCount a_now_items a_now_books a_now_terms a_now_shelves a_now_lots a_now_orders, oX5 a_now_shelves c_now_shelves_lanes c_now_shelves_positions c_now_shelves_room c_now_shelves_gap c_now_shelves_places c_now_shelves_picked a_now_shelves_lot a_now_shelves_pieces a_now_shelves_mark a_now_shelves_byDistance, rI cI a_now_shelves_lot 48 c_now_shelves_lot, rI cI a_now_shelves_pieces 48 c_now_shelves_pieces, rI cI a_now_shelves_mark 48 c_now_shelves_mark, rI cI a_now_shelves_byDistance 48 c_now_shelves_byDistance, oX1 a_now_lots c_now_lots_count a_now_lots_product a_now_lots_last a_now_lots_cost a_now_lots_state a_now_lots_byLast, rI cI a_now_lots_product 24 c_now_lots_product, rI cI a_now_lots_last 24 c_now_lots_last, rI cI a_now_lots_state 24 c_now_lots_state, rI cI a_now_lots_byLast 24 c_now_lots_byLast, oX2 a_now_orders c_now_orders_count c_now_orders_gifts a_now_orders_customer a_now_orders_product a_now_orders_open a_now_orders_due a_now_orders_life a_now_orders_byDue a_now_orders_had a_now_orders_stamps, rI cI a_now_orders_product 40 c_now_orders_product, rI cI a_now_orders_open 40 c_now_orders_open, rI cI a_now_orders_due 40 c_now_orders_due, rI cI a_now_orders_life 40 c_now_orders_life, rI cI a_now_orders_byDue 40 c_now_orders_byDue, rI cI a_now_orders_had 960 c_now_orders_had, rI cI a_now_orders_stamps 960 c_now_orders_stamps, rI cI a_rest 24 c_rest] s.heap.size = A at hD hAB ⊢
  have hA : ∀ q : Nat, s.heap.size ≤ q → A q := fun q h => by rw [← hAe]; exact Or.inr h
  have hFa := hA
  have hS : va_S A s.heap s.heap [] := va_S.rf
  have hBn := fun (H : Heap) (locs : List Loc) (h : va_S A s.heap H locs) => Nat.le_trans hB0 h.1
  have hEn := fun (H : Heap) (locs : List Loc) (h : va_S A s.heap H locs) => gE_now hE h hAB
  have hl := lv_entry ([.ref a0, .int v1]) (n := 5) (Nat.le_of_ble_eq_true rfl)
  rw [lg_entry_eq]
  generalize (lg_sl ([.ref a0, .int v1]) ++ List.replicate (5 - (lg_sl ([.ref a0, .int v1])).length) Slot.unset).toArray = ls at hl ⊢
  have hl : lv_has ls 5 [(0, .ref a0), (1, .int v1)] := hl
  obtain ⟨H, hHe⟩ : ∃ H : Heap, H = s.heap := ⟨_, rfl⟩
  have hP : va_P D vwCl [oX7 a0 a_now a_past c_acts c_nextSlot a_plan a_picker a_rest a_packed, oX6 a_now c_now_today c_now_products c_now_itemCount a_now_items a_now_books a_now_terms a_now_shelves a_now_lots a_now_orders, oX5 a_now_shelves c_now_shelves_lanes c_now_shelves_positions c_now_shelves_room c_now_shelves_gap c_now_shelves_places c_now_shelves_picked a_now_shelves_lot a_now_shelves_pieces a_now_shelves_mark a_now_shelves_byDistance, rI cI a_now_shelves_lot 48 c_now_shelves_lot, rI cI a_now_shelves_pieces 48 c_now_shelves_pieces, rI cI a_now_shelves_mark 48 c_now_shelves_mark, rI cI a_now_shelves_byDistance 48 c_now_shelves_byDistance, oX1 a_now_lots c_now_lots_count a_now_lots_product a_now_lots_last a_now_lots_cost a_now_lots_state a_now_lots_byLast, rI cI a_now_lots_product 24 c_now_lots_product, rI cI a_now_lots_last 24 c_now_lots_last, rI cI a_now_lots_state 24 c_now_lots_state, rI cI a_now_lots_byLast 24 c_now_lots_byLast, oX2 a_now_orders c_now_orders_count c_now_orders_gifts a_now_orders_customer a_now_orders_product a_now_orders_open a_now_orders_due a_now_orders_life a_now_orders_byDue a_now_orders_had a_now_orders_stamps, rI cI a_now_orders_product 40 c_now_orders_product, rI cI a_now_orders_open 40 c_now_orders_open, rI cI a_now_orders_due 40 c_now_orders_due, rI cI a_now_orders_life 40 c_now_orders_life, rI cI a_now_orders_byDue 40 c_now_orders_byDue, rI cI a_now_orders_had 960 c_now_orders_had, rI cI a_now_orders_stamps 960 c_now_orders_stamps, rI cI a_rest 24 c_rest] H := by rw [hHe]; exact hP
  have hS : va_S A s.heap H [] := by rw [hHe]; exact hS
  refine W_heq hHe ?_
  unfold f_X7_leftOpen at hf
  refine gen_goW (fun WW hWW => ?_)
  have hL18 : ∀ (n : Nat) (n1 : Int32) (n2 : Int32) (n3 : Int32) (c_now_shelves_picked : Int64) (c_now_shelves_lot : Nat → Int32) (c_now_shelves_pieces : Nat → Int32) (c_now_shelves_mark : Nat → Int32) (c_now_orders_gifts : Int32) (c_now_orders_open : Nat → Int32) (c_now_orders_had : Nat → Int32) (c_now_orders_stamps : Nat → Int32) (c_rest : Nat → Int32) (e2 : Int32) (e_c_now_shelves_picked : Int64) (e_c_now_shelves_lot : Nat → Int32) (e_c_now_shelves_pieces : Nat → Int32) (e_c_now_shelves_mark : Nat → Int32) (e_c_now_orders_gifts : Int32) (e_c_now_orders_open : Nat → Int32) (e_c_now_orders_had : Nat → Int32) (e_c_now_orders_stamps : Nat → Int32) (e_c_rest : Nat → Int32), loop (fun z => f_X7_leftOpen_L18 n1 c_now_shelves_places c_now_shelves_byDistance c_now_lots_count c_now_lots_product c_now_lots_last c_now_lots_state c_now_lots_byLast c_now_orders_count c_now_orders_product c_now_orders_due c_now_orders_life c_now_orders_byDue z.1 z.2.1 z.2.2.1 z.2.2.2.1 z.2.2.2.2.1 z.2.2.2.2.2.1 z.2.2.2.2.2.2.1 z.2.2.2.2.2.2.2.1 z.2.2.2.2.2.2.2.2.1 z.2.2.2.2.2.2.2.2.2.1 z.2.2.2.2.2.2.2.2.2.2) n (n2, n3, c_now_shelves_picked, c_now_shelves_lot, c_now_shelves_pieces, c_now_shelves_mark, c_now_orders_gifts, c_now_orders_open, c_now_orders_had, c_now_orders_stamps, c_rest) = some (e2, e_c_now_shelves_picked, e_c_now_shelves_lot, e_c_now_shelves_pieces, e_c_now_shelves_mark, e_c_now_orders_gifts, e_c_now_orders_open, e_c_now_orders_had, e_c_now_orders_stamps, e_c_rest) → (∀ (H : Heap) (locs : List Loc) (ls : Array Slot), va_P D vwCl [oX7 a0 a_now a_past c_acts c_nextSlot a_plan a_picker a_rest a_packed, oX6 a_now c_now_today c_now_products c_now_itemCount a_now_items a_now_books a_now_terms a_now_shelves a_now_lots a_now_orders, oX5 a_now_shelves c_now_shelves_lanes c_now_shelves_positions c_now_shelves_room c_now_shelves_gap c_now_shelves_places e_c_now_shelves_picked a_now_shelves_lot a_now_shelves_pieces a_now_shelves_mark a_now_shelves_byDistance, rI cI a_now_shelves_lot 48 e_c_now_shelves_lot, rI cI a_now_shelves_pieces 48 e_c_now_shelves_pieces, rI cI a_now_shelves_mark 48 e_c_now_shelves_mark, rI cI a_now_shelves_byDistance 48 c_now_shelves_byDistance, oX1 a_now_lots c_now_lots_count a_now_lots_product a_now_lots_last a_now_lots_cost a_now_lots_state a_now_lots_byLast, rI cI a_now_lots_product 24 c_now_lots_product, rI cI a_now_lots_last 24 c_now_lots_last, rI cI a_now_lots_state 24 c_now_lots_state, rI cI a_now_lots_byLast 24 c_now_lots_byLast, oX2 a_now_orders c_now_orders_count e_c_now_orders_gifts a_now_orders_customer a_now_orders_product a_now_orders_open a_now_orders_due a_now_orders_life a_now_orders_byDue a_now_orders_had a_now_orders_stamps, rI cI a_now_orders_product 40 c_now_orders_product, rI cI a_now_orders_open 40 e_c_now_orders_open, rI cI a_now_orders_due 40 c_now_orders_due, rI cI a_now_orders_life 40 c_now_orders_life, rI cI a_now_orders_byDue 40 c_now_orders_byDue, rI cI a_now_orders_had 960 e_c_now_orders_had, rI cI a_now_orders_stamps 960 e_c_now_orders_stamps, rI cI a_rest 24 e_c_rest] H → va_D A [oX7 a0 a_now a_past c_acts c_nextSlot a_plan a_picker a_rest a_packed, oX6 a_now c_now_today c_now_products c_now_itemCount a_now_items a_now_books a_now_terms a_now_shelves a_now_lots a_now_orders, oX5 a_now_shelves c_now_shelves_lanes c_now_shelves_positions c_now_shelves_room c_now_shelves_gap c_now_shelves_places e_c_now_shelves_picked a_now_shelves_lot a_now_shelves_pieces a_now_shelves_mark a_now_shelves_byDistance, rI cI a_now_shelves_lot 48 e_c_now_shelves_lot, rI cI a_now_shelves_pieces 48 e_c_now_shelves_pieces, rI cI a_now_shelves_mark 48 e_c_now_shelves_mark, rI cI a_now_shelves_byDistance 48 c_now_shelves_byDistance, oX1 a_now_lots c_now_lots_count a_now_lots_product a_now_lots_last a_now_lots_cost a_now_lots_state a_now_lots_byLast, rI cI a_now_lots_product 24 c_now_lots_product, rI cI a_now_lots_last 24 c_now_lots_last, rI cI a_now_lots_state 24 c_now_lots_state, rI cI a_now_lots_byLast 24 c_now_lots_byLast, oX2 a_now_orders c_now_orders_count e_c_now_orders_gifts a_now_orders_customer a_now_orders_product a_now_orders_open a_now_orders_due a_now_orders_life a_now_orders_byDue a_now_orders_had a_now_orders_stamps, rI cI a_now_orders_product 40 c_now_orders_product, rI cI a_now_orders_open 40 e_c_now_orders_open, rI cI a_now_orders_due 40 c_now_orders_due, rI cI a_now_orders_life 40 c_now_orders_life, rI cI a_now_orders_byDue 40 c_now_orders_byDue, rI cI a_now_orders_had 960 e_c_now_orders_had, rI cI a_now_orders_stamps 960 e_c_now_orders_stamps, rI cI a_rest 24 e_c_rest] → va_S A s.heap H locs → lv_has ls 5 [(2, .int e2)] → WW H locs 0 0 (F0 m 92 ls [])) → ∀ (H : Heap) (locs : List Loc) (ls : Array Slot), va_P D vwCl [oX7 a0 a_now a_past c_acts c_nextSlot a_plan a_picker a_rest a_packed, oX6 a_now c_now_today c_now_products c_now_itemCount a_now_items a_now_books a_now_terms a_now_shelves a_now_lots a_now_orders, oX5 a_now_shelves c_now_shelves_lanes c_now_shelves_positions c_now_shelves_room c_now_shelves_gap c_now_shelves_places c_now_shelves_picked a_now_shelves_lot a_now_shelves_pieces a_now_shelves_mark a_now_shelves_byDistance, rI cI a_now_shelves_lot 48 c_now_shelves_lot, rI cI a_now_shelves_pieces 48 c_now_shelves_pieces, rI cI a_now_shelves_mark 48 c_now_shelves_mark, rI cI a_now_shelves_byDistance 48 c_now_shelves_byDistance, oX1 a_now_lots c_now_lots_count a_now_lots_product a_now_lots_last a_now_lots_cost a_now_lots_state a_now_lots_byLast, rI cI a_now_lots_product 24 c_now_lots_product, rI cI a_now_lots_last 24 c_now_lots_last, rI cI a_now_lots_state 24 c_now_lots_state, rI cI a_now_lots_byLast 24 c_now_lots_byLast, oX2 a_now_orders c_now_orders_count c_now_orders_gifts a_now_orders_customer a_now_orders_product a_now_orders_open a_now_orders_due a_now_orders_life a_now_orders_byDue a_now_orders_had a_now_orders_stamps, rI cI a_now_orders_product 40 c_now_orders_product, rI cI a_now_orders_open 40 c_now_orders_open, rI cI a_now_orders_due 40 c_now_orders_due, rI cI a_now_orders_life 40 c_now_orders_life, rI cI a_now_orders_byDue 40 c_now_orders_byDue, rI cI a_now_orders_had 960 c_now_orders_had, rI cI a_now_orders_stamps 960 c_now_orders_stamps, rI cI a_rest 24 c_rest] H → va_D A [oX7 a0 a_now a_past c_acts c_nextSlot a_plan a_picker a_rest a_packed, oX6 a_now c_now_today c_now_products c_now_itemCount a_now_items a_now_books a_now_terms a_now_shelves a_now_lots a_now_orders, oX5 a_now_shelves c_now_shelves_lanes c_now_shelves_positions c_now_shelves_room c_now_shelves_gap c_now_shelves_places c_now_shelves_picked a_now_shelves_lot a_now_shelves_pieces a_now_shelves_mark a_now_shelves_byDistance, rI cI a_now_shelves_lot 48 c_now_shelves_lot, rI cI a_now_shelves_pieces 48 c_now_shelves_pieces, rI cI a_now_shelves_mark 48 c_now_shelves_mark, rI cI a_now_shelves_byDistance 48 c_now_shelves_byDistance, oX1 a_now_lots c_now_lots_count a_now_lots_product a_now_lots_last a_now_lots_cost a_now_lots_state a_now_lots_byLast, rI cI a_now_lots_product 24 c_now_lots_product, rI cI a_now_lots_last 24 c_now_lots_last, rI cI a_now_lots_state 24 c_now_lots_state, rI cI a_now_lots_byLast 24 c_now_lots_byLast, oX2 a_now_orders c_now_orders_count c_now_orders_gifts a_now_orders_customer a_now_orders_product a_now_orders_open a_now_orders_due a_now_orders_life a_now_orders_byDue a_now_orders_had a_now_orders_stamps, rI cI a_now_orders_product 40 c_now_orders_product, rI cI a_now_orders_open 40 c_now_orders_open, rI cI a_now_orders_due 40 c_now_orders_due, rI cI a_now_orders_life 40 c_now_orders_life, rI cI a_now_orders_byDue 40 c_now_orders_byDue, rI cI a_now_orders_had 960 c_now_orders_had, rI cI a_now_orders_stamps 960 c_now_orders_stamps, rI cI a_rest 24 c_rest] → va_S A s.heap H locs → lv_has ls 5 [(0, .ref a0), (1, .int n1), (2, .int n2), (3, .int n3)] → WW H locs 0 0 (F0 m 18 ls []) := by
    intro n
    induction n with
    | zero =>
      intro n1 n2 n3 c_now_shelves_picked c_now_shelves_lot c_now_shelves_pieces c_now_shelves_mark c_now_orders_gifts c_now_orders_open c_now_orders_had c_now_orders_stamps c_rest e2 e_c_now_shelves_picked e_c_now_shelves_lot e_c_now_shelves_pieces e_c_now_shelves_mark e_c_now_orders_gifts e_c_now_orders_open e_c_now_orders_had e_c_now_orders_stamps e_c_rest hlp
      exact absurd hlp (by simp [loop])
    | succ n ih =>
      intro n1 n2 n3 c_now_shelves_picked c_now_shelves_lot c_now_shelves_pieces c_now_shelves_mark c_now_orders_gifts c_now_orders_open c_now_orders_had c_now_orders_stamps c_rest e2 e_c_now_shelves_picked e_c_now_shelves_lot e_c_now_shelves_pieces e_c_now_shelves_mark e_c_now_orders_gifts e_c_now_orders_open e_c_now_orders_had e_c_now_orders_stamps e_c_rest hlp K H locs ls hP hD hS hl
      obtain ⟨x9, hf, hlp⟩ := loop_s hlp
      have hf : f_X7_leftOpen_L18 n1 c_now_shelves_places c_now_shelves_byDistance c_now_lots_count c_now_lots_product c_now_lots_last c_now_lots_state c_now_lots_byLast c_now_orders_count c_now_orders_product c_now_orders_due c_now_orders_life c_now_orders_byDue n2 n3 c_now_shelves_picked c_now_shelves_lot c_now_shelves_pieces c_now_shelves_mark c_now_orders_gifts c_now_orders_open c_now_orders_had c_now_orders_stamps c_rest = some x9 := hf
      unfold f_X7_leftOpen_L18 at hf
      have hJ86 : ∀ (n2 : Int32) (n3 : Int32) (c_now_shelves_picked : Int64) (c_now_shelves_lot : Nat → Int32) (c_now_shelves_pieces : Nat → Int32) (c_now_shelves_mark : Nat → Int32) (c_now_orders_gifts : Int32) (c_now_orders_open : Nat → Int32) (c_now_orders_had : Nat → Int32) (c_now_orders_stamps : Nat → Int32) (c_rest : Nat → Int32), f_X7_leftOpen_L18_J86 n1 n2 n3 c_now_shelves_places c_now_shelves_picked c_now_shelves_lot c_now_shelves_pieces c_now_shelves_mark c_now_shelves_byDistance c_now_lots_count c_now_lots_product c_now_lots_last c_now_lots_state c_now_lots_byLast c_now_orders_count c_now_orders_gifts c_now_orders_product c_now_orders_open c_now_orders_due c_now_orders_life c_now_orders_byDue c_now_orders_had c_now_orders_stamps c_rest = some x9 → ∀ (H : Heap) (locs : List Loc) (ls : Array Slot), va_P D vwCl [oX7 a0 a_now a_past c_acts c_nextSlot a_plan a_picker a_rest a_packed, oX6 a_now c_now_today c_now_products c_now_itemCount a_now_items a_now_books a_now_terms a_now_shelves a_now_lots a_now_orders, oX5 a_now_shelves c_now_shelves_lanes c_now_shelves_positions c_now_shelves_room c_now_shelves_gap c_now_shelves_places c_now_shelves_picked a_now_shelves_lot a_now_shelves_pieces a_now_shelves_mark a_now_shelves_byDistance, rI cI a_now_shelves_lot 48 c_now_shelves_lot, rI cI a_now_shelves_pieces 48 c_now_shelves_pieces, rI cI a_now_shelves_mark 48 c_now_shelves_mark, rI cI a_now_shelves_byDistance 48 c_now_shelves_byDistance, oX1 a_now_lots c_now_lots_count a_now_lots_product a_now_lots_last a_now_lots_cost a_now_lots_state a_now_lots_byLast, rI cI a_now_lots_product 24 c_now_lots_product, rI cI a_now_lots_last 24 c_now_lots_last, rI cI a_now_lots_state 24 c_now_lots_state, rI cI a_now_lots_byLast 24 c_now_lots_byLast, oX2 a_now_orders c_now_orders_count c_now_orders_gifts a_now_orders_customer a_now_orders_product a_now_orders_open a_now_orders_due a_now_orders_life a_now_orders_byDue a_now_orders_had a_now_orders_stamps, rI cI a_now_orders_product 40 c_now_orders_product, rI cI a_now_orders_open 40 c_now_orders_open, rI cI a_now_orders_due 40 c_now_orders_due, rI cI a_now_orders_life 40 c_now_orders_life, rI cI a_now_orders_byDue 40 c_now_orders_byDue, rI cI a_now_orders_had 960 c_now_orders_had, rI cI a_now_orders_stamps 960 c_now_orders_stamps, rI cI a_rest 24 c_rest] H → va_D A [oX7 a0 a_now a_past c_acts c_nextSlot a_plan a_picker a_rest a_packed, oX6 a_now c_now_today c_now_products c_now_itemCount a_now_items a_now_books a_now_terms a_now_shelves a_now_lots a_now_orders, oX5 a_now_shelves c_now_shelves_lanes c_now_shelves_positions c_now_shelves_room c_now_shelves_gap c_now_shelves_places c_now_shelves_picked a_now_shelves_lot a_now_shelves_pieces a_now_shelves_mark a_now_shelves_byDistance, rI cI a_now_shelves_lot 48 c_now_shelves_lot, rI cI a_now_shelves_pieces 48 c_now_shelves_pieces, rI cI a_now_shelves_mark 48 c_now_shelves_mark, rI cI a_now_shelves_byDistance 48 c_now_shelves_byDistance, oX1 a_now_lots c_now_lots_count a_now_lots_product a_now_lots_last a_now_lots_cost a_now_lots_state a_now_lots_byLast, rI cI a_now_lots_product 24 c_now_lots_product, rI cI a_now_lots_last 24 c_now_lots_last, rI cI a_now_lots_state 24 c_now_lots_state, rI cI a_now_lots_byLast 24 c_now_lots_byLast, oX2 a_now_orders c_now_orders_count c_now_orders_gifts a_now_orders_customer a_now_orders_product a_now_orders_open a_now_orders_due a_now_orders_life a_now_orders_byDue a_now_orders_had a_now_orders_stamps, rI cI a_now_orders_product 40 c_now_orders_product, rI cI a_now_orders_open 40 c_now_orders_open, rI cI a_now_orders_due 40 c_now_orders_due, rI cI a_now_orders_life 40 c_now_orders_life, rI cI a_now_orders_byDue 40 c_now_orders_byDue, rI cI a_now_orders_had 960 c_now_orders_had, rI cI a_now_orders_stamps 960 c_now_orders_stamps, rI cI a_rest 24 c_rest] → va_S A s.heap H locs → lv_has ls 5 [(0, .ref a0), (1, .int n1), (2, .int n2), (3, .int n3)] → WW H locs 0 0 (F0 m 86 ls []) := by
        intro n2 n3 c_now_shelves_picked c_now_shelves_lot c_now_shelves_pieces c_now_shelves_mark c_now_orders_gifts c_now_orders_open c_now_orders_had c_now_orders_stamps c_rest hf H locs ls hP hD hS hl
        unfold f_X7_leftOpen_L18_J86 at hf
        refine (hWW _ _ _ _ _).mpr ?_
        refine lv_iinc (v := (n3 + 1)) (lv' := [(3, .int (n3 + 1)), (0, .ref a0), (1, .int n1), (2, .int n2)]) hx hb dX7_leftOpen_86 hl (k := 3) rfl rfl (by decide) rfl (fun ls hl => ?_)
        refine lv_goto (tgt := 18) hx hb dX7_leftOpen_89 (by decide) ?_
        obtain rfl := Option.some.inj hf
        exact (hWW _ _ _ _ _).mp (ih _ _ _ _ _ _ _ _ _ _ _ _ _ _ _ _ _ _ _ _ _ _ hlp K _ _ ls hP hD hS (lv_sub hl [1, 2, 3, 0] rfl))
      refine (hWW _ _ _ _ _).mpr ?_
      refine lv_iload_n hx hb dX7_leftOpen_18 rfl (lv_at hl 3 rfl) ?_
      refine lv_aload_n hx hb dX7_leftOpen_19 rfl (lv_at hl 0 rfl) ?_
      refine va_get (D := D) (ci := 6) (v := .ref a_now) (C := RX7) (T := TX7) (N := 8) hx hb hts (fun w h => mb (iX7 w h)) hown hK hP 0 rfl rfl 0 (by decide) (hts _ (mb tb_270)) (fun _ h9 => h9) rfl dX7_leftOpen_20 ?_
      refine va_get (D := D) (ci := 5) (v := .ref a_now_orders) (C := RX6) (T := TX6) (N := 9) hx hb hts (fun w h => mb (iX6 w h)) hown hK hP 1 rfl rfl 8 (by decide) (hts _ (mb tb_173)) (fun _ h9 => h9) rfl dX7_leftOpen_23 ?_
      refine va_get (D := D) (ci := 1) (v := .int c_now_orders_count) (C := RX2) (T := TX2) (N := 10) hx hb hts (fun w h => mb (iX2 w h)) hown hK hP 12 rfl rfl 0 (by decide) (hts _ (mb tb_120)) (fun _ h9 => h9) rfl dX7_leftOpen_26 ?_
      refine lv_icmp_ge (tgt := 92) hx hb dX7_leftOpen_29 (by decide) (fun h4 => ?_) (fun h4 => ?_)
      · have hf := ipos h4 hf
        obtain rfl := Option.some.inj hf
        cases lpx_r hlp
        exact (hWW _ _ _ _ _).mp (K _ _ ls hP hD hS (lv_sub hl [2] rfl))
      · have hf := ineg h4 hf
        refine lv_aload_n hx hb dX7_leftOpen_32 rfl (lv_at hl 0 rfl) ?_
        refine va_get (D := D) (ci := 6) (v := .ref a_now) (C := RX7) (T := TX7) (N := 8) hx hb hts (fun w h => mb (iX7 w h)) hown hK hP 0 rfl rfl 0 (by decide) (hts _ (mb tb_270)) (fun _ h9 => h9) rfl dX7_leftOpen_33 ?_
        refine va_get (D := D) (ci := 5) (v := .ref a_now_orders) (C := RX6) (T := TX6) (N := 9) hx hb hts (fun w h => mb (iX6 w h)) hown hK hP 1 rfl rfl 8 (by decide) (hts _ (mb tb_173)) (fun _ h9 => h9) rfl dX7_leftOpen_36 ?_
        refine va_get (D := D) (ci := 1) (v := .ref a_now_orders_byDue) (C := RX2) (T := TX2) (N := 10) hx hb hts (fun w h => mb (iX2 w h)) hown hK hP 12 rfl rfl 7 (by decide) (hts _ (mb tb_132)) (fun _ h9 => h9) rfl dX7_leftOpen_39 ?_
        refine lv_iload_n hx hb dX7_leftOpen_42 rfl (lv_at hl 3 rfl) ?_
        obtain ⟨h5, hf⟩ := ob_d hf
        refine va_iald hx hb hK hP 17 0 rfl rfl h5 dX7_leftOpen_43 ?_
        refine lv_istore (lv' := [(4, .int (c_now_orders_byDue n3.toNatClampNeg)), (0, .ref a0), (1, .int n1), (2, .int n2), (3, .int n3)]) hx hb dX7_leftOpen_44 hl (by decide) rfl (fun ls hl => ?_)
        refine lv_aload_n hx hb dX7_leftOpen_46 rfl (lv_at hl 1 rfl) ?_
        refine va_get (D := D) (ci := 6) (v := .ref a_now) (C := RX7) (T := TX7) (N := 8) hx hb hts (fun w h => mb (iX7 w h)) hown hK hP 0 rfl rfl 0 (by decide) (hts _ (mb tb_270)) (fun _ h9 => h9) rfl dX7_leftOpen_47 ?_
        refine va_get (D := D) (ci := 5) (v := .ref a_now_orders) (C := RX6) (T := TX6) (N := 9) hx hb hts (fun w h => mb (iX6 w h)) hown hK hP 1 rfl rfl 8 (by decide) (hts _ (mb tb_173)) (fun _ h9 => h9) rfl dX7_leftOpen_50 ?_
        refine lv_iload hx hb dX7_leftOpen_53 (lv_at hl 0 rfl) ?_
        refine lv_iload_n hx hb dX7_leftOpen_55 rfl (lv_at hl 2 rfl) ?_
        obtain ⟨r6, hc7, hf⟩ := ob1 hf
        refine ro_calli (r := r6) (va_runV (As := [.int (c_now_orders_byDue n3.toNatClampNeg), .int n1]) (rest := []) ⟨hx, hb, hml, hown, hts⟩ (k_X2_isOf l hl0 D cI cJ cZ cS B0 H a_now_orders a_now_orders_customer a_now_orders_product a_now_orders_open a_now_orders_due a_now_orders_life a_now_orders_byDue a_now_orders_had a_now_orders_stamps c_now_orders_count c_now_orders_gifts c_now_orders_product (c_now_orders_byDue n3.toNatClampNeg) n1 r6 hc7) (cwV 2 hts (gV tb_431 tb_432 tb_433 tb_5 tb_434) rfl rfl rfl (by decide +kernel) ⟨Nat.le_of_ble_eq_true rfl, Nat.le_of_ble_eq_true rfl⟩) ⟨rp_blind, va_recv hK hP (ci := 1) (q0 := 12) rfl rfl, rp_pre (hP.sub [12, 13] rfl) hK (hBn _ _ hS) (hEn _ _ hS)⟩ rfl rfl hl.1 rfl (lv_room (Nat.le_of_ble_eq_true rfl)) dX7_leftOpen_56 ⟨Nat.le_of_ble_eq_true rfl, Nat.le_of_ble_eq_true rfl⟩) ?_
        refine lv_if_eq (tgt := 86) hx hb dX7_leftOpen_59 (by decide) (fun h8 => ?_) (fun h8 => ?_)
        · have hf := ipos h8 hf
          exact (hWW _ _ _ _ _).mp (hJ86 _ _ _ _ _ _ _ _ _ _ _ hf _ _ ls hP hD hS (lv_sub hl [1, 2, 3, 4] rfl))
        · have hf := ineg h8 hf
          refine lv_iload_n hx hb dX7_leftOpen_62 rfl (lv_at hl 3 rfl) ?_
          refine lv_aload_n hx hb dX7_leftOpen_63 rfl (lv_at hl 1 rfl) ?_
          refine va_get (D := D) (ci := 6) (v := .ref a_now) (C := RX7) (T := TX7) (N := 8) hx hb hts (fun w h => mb (iX7 w h)) hown hK hP 0 rfl rfl 0 (by decide) (hts _ (mb tb_270)) (fun _ h9 => h9) rfl dX7_leftOpen_64 ?_
          refine va_get (D := D) (ci := 5) (v := .ref a_now_orders) (C := RX6) (T := TX6) (N := 9) hx hb hts (fun w h => mb (iX6 w h)) hown hK hP 1 rfl rfl 8 (by decide) (hts _ (mb tb_173)) (fun _ h9 => h9) rfl dX7_leftOpen_67 ?_
          refine va_get (D := D) (ci := 1) (v := .ref a_now_orders_open) (C := RX2) (T := TX2) (N := 10) hx hb hts (fun w h => mb (iX2 w h)) hown hK hP 12 rfl rfl 4 (by decide) (hts _ (mb tb_127)) (fun _ h9 => h9) rfl dX7_leftOpen_70 ?_
          refine lv_iload hx hb dX7_leftOpen_73 (lv_at hl 0 rfl) ?_
          obtain ⟨h9, hf⟩ := ob_d hf
          refine va_iald hx hb hK hP 14 0 rfl rfl h9 dX7_leftOpen_75 ?_
          refine lv_aload_n hx hb dX7_leftOpen_76 rfl (lv_at hl 1 rfl) ?_
          refine lv_iload hx hb dX7_leftOpen_77 (lv_at hl 0 rfl) ?_
          refine lv_iconst (v := 0) hx hb dX7_leftOpen_79 (by decide) ?_
          obtain ⟨r10, o12, o13, o14, o15, o16, o17, o18, o19, o20, hc11, hf⟩ := ob10 hf
          refine rw_calli (r := r10) (va_runV (As := [.int (c_now_orders_byDue n3.toNatClampNeg), .int 0]) (rest := [.int (c_now_orders_open (c_now_orders_byDue n3.toNatClampNeg).toNatClampNeg), .int n2]) ⟨hx, hb, hml, hown, hts⟩ (k_X7_serve l hl0 D cI cJ cZ cS B0 H.size a0 a_now a_past a_plan a_picker a_rest a_packed a_now_items a_now_books a_now_terms a_now_shelves a_now_lots a_now_orders a_now_shelves_lot a_now_shelves_pieces a_now_shelves_mark a_now_shelves_byDistance a_now_lots_product a_now_lots_last a_now_lots_cost a_now_lots_state a_now_lots_byLast a_now_orders_customer a_now_orders_product a_now_orders_open a_now_orders_due a_now_orders_life a_now_orders_byDue a_now_orders_had a_now_orders_stamps c_acts c_nextSlot c_now_today c_now_products c_now_itemCount c_now_shelves_lanes c_now_shelves_positions c_now_shelves_room c_now_shelves_gap c_now_shelves_places c_now_shelves_picked c_now_shelves_lot c_now_shelves_pieces c_now_shelves_mark c_now_shelves_byDistance c_now_lots_count c_now_lots_product c_now_lots_last c_now_lots_state c_now_lots_byLast c_now_orders_count c_now_orders_gifts c_now_orders_product c_now_orders_open c_now_orders_due c_now_orders_life c_now_orders_had c_now_orders_stamps c_rest (c_now_orders_byDue n3.toNatClampNeg) 0 r10 o12 o13 o14 o15 o16 o17 o18 o19 o20 hc11) (cwV 2 hts (gV tb_346 tb_348 ts_2 tb_1 tb_349) rfl rfl rfl (by decide +kernel) ⟨Nat.le_of_ble_eq_true rfl, Nat.le_of_ble_eq_true rfl⟩) ⟨wp_blind, va_recv hK hP (ci := 6) (q0 := 0) rfl rfl, wp_pre (hP.sub [0, 1, 2, 3, 4, 5, 6, 7, 8, 9, 10, 11, 12, 13, 14, 15, 16, 18, 19, 20] rfl) hK (va_D.sub (hD.weaken (fun _ _ _ h9 => hAB _ h9)) [0, 1, 2, 3, 4, 5, 6, 7, 8, 9, 10, 11, 12, 13, 14, 15, 16, 18, 19, 20] rfl rfl) (hBn _ _ hS) (hEn _ _ hS)⟩ rfl rfl hl.1 rfl (lv_room (Nat.le_of_ble_eq_true rfl)) dX7_leftOpen_80 ⟨Nat.le_of_ble_eq_true rfl, Nat.le_of_ble_eq_true rfl⟩) hP hD hS hA [oX7 a0 a_now a_past c_acts c_nextSlot a_plan a_picker a_rest a_packed, oX6 a_now c_now_today c_now_products c_now_itemCount a_now_items a_now_books a_now_terms a_now_shelves a_now_lots a_now_orders, oX5 a_now_shelves c_now_shelves_lanes c_now_shelves_positions c_now_shelves_room c_now_shelves_gap c_now_shelves_places o12 a_now_shelves_lot a_now_shelves_pieces a_now_shelves_mark a_now_shelves_byDistance, rI cI a_now_shelves_lot 48 o13, rI cI a_now_shelves_pieces 48 o14, rI cI a_now_shelves_mark 48 o15, rI cI a_now_shelves_byDistance 48 c_now_shelves_byDistance, oX1 a_now_lots c_now_lots_count a_now_lots_product a_now_lots_last a_now_lots_cost a_now_lots_state a_now_lots_byLast, rI cI a_now_lots_product 24 c_now_lots_product, rI cI a_now_lots_last 24 c_now_lots_last, rI cI a_now_lots_state 24 c_now_lots_state, rI cI a_now_lots_byLast 24 c_now_lots_byLast, oX2 a_now_orders c_now_orders_count o16 a_now_orders_customer a_now_orders_product a_now_orders_open a_now_orders_due a_now_orders_life a_now_orders_byDue a_now_orders_had a_now_orders_stamps, rI cI a_now_orders_product 40 c_now_orders_product, rI cI a_now_orders_open 40 o17, rI cI a_now_orders_due 40 c_now_orders_due, rI cI a_now_orders_life 40 c_now_orders_life, rI cI a_now_orders_byDue 40 c_now_orders_byDue, rI cI a_now_orders_had 960 o18, rI cI a_now_orders_stamps 960 o19, rI cI a_rest 24 o20] 21 [0, 1, 2, 3, 4, 5, 6, 7, 8, 9, 10, 11, 12, 13, 14, 15, 16, 18, 19, 20] [17] rfl rfl rfl rfl (by decide +kernel) rfl (fun H locs hP hD hS => ?_)
          refine lv_isub hx hb dX7_leftOpen_83 ?_
          refine lv_iadd hx hb dX7_leftOpen_84 ?_
          refine lv_istore_n (lv' := [(2, .int (n2 + ((c_now_orders_open (c_now_orders_byDue n3.toNatClampNeg).toNatClampNeg) - r10))), (4, .int (c_now_orders_byDue n3.toNatClampNeg)), (0, .ref a0), (1, .int n1), (3, .int n3)]) hx hb dX7_leftOpen_85 rfl hl (by decide) rfl (fun ls hl => ?_)
          exact (hWW _ _ _ _ _).mp (hJ86 _ _ _ _ _ _ _ _ _ _ _ hf _ _ ls hP hD hS (lv_sub hl [2, 3, 0, 4] rfl))
  refine (hWW _ _ _ _ _).mpr ?_
  refine lv_aload_n hx hb dX7_leftOpen_0 rfl (lv_at hl 0 rfl) ?_
  refine va_get (D := D) (ci := 6) (v := .ref a_now) (C := RX7) (T := TX7) (N := 8) hx hb hts (fun w h => mb (iX7 w h)) hown hK hP 0 rfl rfl 0 (by decide) (hts _ (mb tb_270)) (fun _ h9 => h9) rfl dX7_leftOpen_1 ?_
  refine va_get (D := D) (ci := 5) (v := .ref a_now_shelves) (C := RX6) (T := TX6) (N := 9) hx hb hts (fun w h => mb (iX6 w h)) hown hK hP 1 rfl rfl 6 (by decide) (hts _ (mb tb_169)) (fun _ h9 => h9) rfl dX7_leftOpen_4 ?_
  refine lv_aload_n hx hb dX7_leftOpen_7 rfl (lv_at hl 0 rfl) ?_
  refine va_get (D := D) (ci := 6) (v := .ref a_rest) (C := RX7) (T := TX7) (N := 8) hx hb hts (fun w h => mb (iX7 w h)) hown hK hP 0 rfl rfl 6 (by decide) (hts _ (mb tb_276)) (fun _ h9 => h9) rfl dX7_leftOpen_8 ?_
  obtain ⟨o3, hc2, hf⟩ := ob1 hf
  refine rw_callv (va_runV (As := [.ref a_rest]) (rest := []) ⟨hx, hb, hml, hown, hts⟩ (k_X5_countLots l hl0 D cI cJ cZ cS B0 H.size a_now_shelves a_now_shelves_lot a_now_shelves_pieces a_now_shelves_mark a_now_shelves_byDistance a_rest c_now_shelves_lanes c_now_shelves_positions c_now_shelves_room c_now_shelves_gap c_now_shelves_places c_now_shelves_picked c_now_shelves_lot c_now_shelves_pieces c_rest o3 hc2) (cwV 1 hts (gV tb_342 tb_343 tb_344 tb_3 tb_345) rfl rfl rfl (by decide +kernel) ⟨Nat.le_of_ble_eq_true rfl, Nat.le_of_ble_eq_true rfl⟩) ⟨wp_blind, va_recv hK hP (ci := 4) (q0 := 2) rfl rfl, wp_pre (hP.sub [2, 3, 4, 20] rfl) hK (va_D.sub (hD.weaken (fun _ _ _ h9 => hAB _ h9)) [2, 3, 4, 20] rfl rfl) (hBn _ _ hS) (hEn _ _ hS)⟩ rfl rfl hl.1 rfl (lv_room (Nat.le_of_ble_eq_true rfl)) dX7_leftOpen_11 ⟨Nat.le_of_ble_eq_true rfl, Nat.le_of_ble_eq_true rfl⟩) hP hD hS hA [oX7 a0 a_now a_past c_acts c_nextSlot a_plan a_picker a_rest a_packed, oX6 a_now c_now_today c_now_products c_now_itemCount a_now_items a_now_books a_now_terms a_now_shelves a_now_lots a_now_orders, oX5 a_now_shelves c_now_shelves_lanes c_now_shelves_positions c_now_shelves_room c_now_shelves_gap c_now_shelves_places c_now_shelves_picked a_now_shelves_lot a_now_shelves_pieces a_now_shelves_mark a_now_shelves_byDistance, rI cI a_now_shelves_lot 48 c_now_shelves_lot, rI cI a_now_shelves_pieces 48 c_now_shelves_pieces, rI cI a_now_shelves_mark 48 c_now_shelves_mark, rI cI a_now_shelves_byDistance 48 c_now_shelves_byDistance, oX1 a_now_lots c_now_lots_count a_now_lots_product a_now_lots_last a_now_lots_cost a_now_lots_state a_now_lots_byLast, rI cI a_now_lots_product 24 c_now_lots_product, rI cI a_now_lots_last 24 c_now_lots_last, rI cI a_now_lots_state 24 c_now_lots_state, rI cI a_now_lots_byLast 24 c_now_lots_byLast, oX2 a_now_orders c_now_orders_count c_now_orders_gifts a_now_orders_customer a_now_orders_product a_now_orders_open a_now_orders_due a_now_orders_life a_now_orders_byDue a_now_orders_had a_now_orders_stamps, rI cI a_now_orders_product 40 c_now_orders_product, rI cI a_now_orders_open 40 c_now_orders_open, rI cI a_now_orders_due 40 c_now_orders_due, rI cI a_now_orders_life 40 c_now_orders_life, rI cI a_now_orders_byDue 40 c_now_orders_byDue, rI cI a_now_orders_had 960 c_now_orders_had, rI cI a_now_orders_stamps 960 c_now_orders_stamps, rI cI a_rest 24 o3] 21 [2, 3, 4, 20] [0, 1, 5, 6, 7, 8, 9, 10, 11, 12, 13, 14, 15, 16, 17, 18, 19] rfl rfl rfl rfl (by decide +kernel) rfl (fun H locs hP hD hS => ?_)
  refine lv_iconst (v := 0) hx hb dX7_leftOpen_14 (by decide) ?_
  refine lv_istore_n (lv' := [(2, .int 0), (0, .ref a0), (1, .int v1)]) hx hb dX7_leftOpen_15 rfl hl (by decide) rfl (fun ls hl => ?_)
  refine lv_iconst (v := 0) hx hb dX7_leftOpen_16 (by decide) ?_
  refine lv_istore_n (lv' := [(3, .int 0), (2, .int 0), (0, .ref a0), (1, .int v1)]) hx hb dX7_leftOpen_17 rfl hl (by decide) rfl (fun ls hl => ?_)
  obtain ⟨m22, c23, c24, c25, c26, c27, c28, c29, c30, c31, hc21, hf⟩ := ob10 hf
  refine (hWW _ _ _ _ _).mp (hL18 fu _ _ _ _ _ _ _ _ _ _ _ _ _ _ _ _ _ _ _ _ _ _ hc21 (fun H locs ls hP hD hS hl => ?_) _ _ ls hP hD hS (lv_sub hl [2, 3, 1, 0] rfl))
  · refine (hWW _ _ _ _ _).mpr ?_
    refine lv_iload_n hx hb dX7_leftOpen_92 rfl (lv_at hl 0 rfl) ?_
    cases hf
    refine W.widen (k := 0) (n := 0) (Nat.le_of_ble_eq_true rfl) (Nat.le_of_ble_eq_true rfl) ?_
    exact W.iret hx hb hr (fun t ht hW => ⟨⟨_, (), rfl, rfl, (by show va_P D vwCl _ t.heap; rw [ht]; exact hP)⟩, hS.F ht⟩) hS.2.2 dX7_leftOpen_93
def f_X7_unfilled (v1 : Int32) (c_now_products : Int32) (c_now_shelves_places : Int32) (c_now_shelves_picked : Int64) (c_now_shelves_lot : Nat → Int32) (c_now_shelves_pieces : Nat → Int32) (c_now_shelves_mark : Nat → Int32) (c_now_shelves_byDistance : Nat → Int32) (c_now_lots_count : Int32) (c_now_lots_product : Nat → Int32) (c_now_lots_last : Nat → Int32) (c_now_lots_state : Nat → Int32) (c_now_lots_byLast : Nat → Int32) (c_now_orders_count : Int32) (c_now_orders_gifts : Int32) (c_now_orders_product : Nat → Int32) (c_now_orders_open : Nat → Int32) (c_now_orders_due : Nat → Int32) (c_now_orders_life : Nat → Int32) (c_now_orders_byDue : Nat → Int32) (c_now_orders_had : Nat → Int32) (c_now_orders_stamps : Nat → Int32) (c_rest : Nat → Int32) : Option ((Except String Int32) × Int64 × (Nat → Int32) × (Nat → Int32) × (Nat → Int32) × Int32 × (Nat → Int32) × (Nat → Int32) × (Nat → Int32) × (Nat → Int32)) :=
  bnd1 (f_X7_needProduct v1 c_now_products) (fun r1 => mx r1 (fun E3 => some (.error E3, c_now_shelves_picked, c_now_shelves_lot, c_now_shelves_pieces, c_now_shelves_mark, c_now_orders_gifts, c_now_orders_open, c_now_orders_had, c_now_orders_stamps, c_rest)) (fun _ =>
  (bnd10 (f_X7_leftOpen v1 c_now_shelves_places c_now_shelves_picked c_now_shelves_lot c_now_shelves_pieces c_now_shelves_mark c_now_shelves_byDistance c_now_lots_count c_now_lots_product c_now_lots_last c_now_lots_state c_now_lots_byLast c_now_orders_count c_now_orders_gifts c_now_orders_product c_now_orders_open c_now_orders_due c_now_orders_life c_now_orders_byDue c_now_orders_had c_now_orders_stamps c_rest) (fun r4 o6 o7 o8 o9 o10 o11 o12 o13 o14 =>
  (some (.ok r4, o6, o7, o8, o9, o10, o11, o12, o13, o14))))))
set_option maxHeartbeats 4000000 in
set_option maxRecDepth 100000 in
theorem k_X7_unfilled (l : Launch) (hl0 : l.stackTraces = false) (D : va_G) (cI cJ cZ cS : ClassId) (B0 : Nat) (sz : Nat) (a0 a_now a_past a_plan a_picker a_rest a_packed a_now_items a_now_books a_now_terms a_now_shelves a_now_lots a_now_orders a_now_shelves_lot a_now_shelves_pieces a_now_shelves_mark a_now_shelves_byDistance a_now_lots_product a_now_lots_last a_now_lots_cost a_now_lots_state a_now_lots_byLast a_now_orders_customer a_now_orders_product a_now_orders_open a_now_orders_due a_now_orders_life a_now_orders_byDue a_now_orders_had a_now_orders_stamps : Nat) (c_acts : Int32) (c_nextSlot : Int32) (c_now_today : Int32) (c_now_products : Int32) (c_now_itemCount : Int32) (c_now_shelves_lanes : Int32) (c_now_shelves_positions : Int32) (c_now_shelves_room : Int32) (c_now_shelves_gap : Int32) (c_now_shelves_places : Int32) (c_now_shelves_picked : Int64) (c_now_shelves_lot : Nat → Int32) (c_now_shelves_pieces : Nat → Int32) (c_now_shelves_mark : Nat → Int32) (c_now_shelves_byDistance : Nat → Int32) (c_now_lots_count : Int32) (c_now_lots_product : Nat → Int32) (c_now_lots_last : Nat → Int32) (c_now_lots_state : Nat → Int32) (c_now_lots_byLast : Nat → Int32) (c_now_orders_count : Int32) (c_now_orders_gifts : Int32) (c_now_orders_product : Nat → Int32) (c_now_orders_open : Nat → Int32) (c_now_orders_due : Nat → Int32) (c_now_orders_life : Nat → Int32) (c_now_orders_byDue : Nat → Int32) (c_now_orders_had : Nat → Int32) (c_now_orders_stamps : Nat → Int32) (c_rest : Nat → Int32) (v1 : Int32) (r9 : Except String Int32) (oc_now_shelves_picked : Int64) (oc_now_shelves_lot : Nat → Int32) (oc_now_shelves_pieces : Nat → Int32) (oc_now_shelves_mark : Nat → Int32) (oc_now_orders_gifts : Int32) (oc_now_orders_open : Nat → Int32) (oc_now_orders_had : Nat → Int32) (oc_now_orders_stamps : Nat → Int32) (oc_rest : Nat → Int32)  (hf : f_X7_unfilled v1 c_now_products c_now_shelves_places c_now_shelves_picked c_now_shelves_lot c_now_shelves_pieces c_now_shelves_mark c_now_shelves_byDistance c_now_lots_count c_now_lots_product c_now_lots_last c_now_lots_state c_now_lots_byLast c_now_orders_count c_now_orders_gifts c_now_orders_product c_now_orders_open c_now_orders_due c_now_orders_life c_now_orders_byDue c_now_orders_had c_now_orders_stamps c_rest = some (r9, oc_now_shelves_picked, oc_now_shelves_lot, oc_now_shelves_pieces, oc_now_shelves_mark, oc_now_orders_gifts, oc_now_orders_open, oc_now_orders_had, oc_now_orders_stamps, oc_rest)) : vx_Met l yX7_unfilled (wz yX7_unfilled cX7_unfilled 2 (some .int)) ({ frames := 7, cells := 1, slots := 6, locals := 122 }) (va_Pc [.ref a0, .int v1] (wp D cI cJ cZ cS B0 [oX7 a0 a_now a_past c_acts c_nextSlot a_plan a_picker a_rest a_packed, oX6 a_now c_now_today c_now_products c_now_itemCount a_now_items a_now_books a_now_terms a_now_shelves a_now_lots a_now_orders, oX5 a_now_shelves c_now_shelves_lanes c_now_shelves_positions c_now_shelves_room c_now_shelves_gap c_now_shelves_places c_now_shelves_picked a_now_shelves_lot a_now_shelves_pieces a_now_shelves_mark a_now_shelves_byDistance, rI cI a_now_shelves_lot 48 c_now_shelves_lot, rI cI a_now_shelves_pieces 48 c_now_shelves_pieces, rI cI a_now_shelves_mark 48 c_now_shelves_mark, rI cI a_now_shelves_byDistance 48 c_now_shelves_byDistance, oX1 a_now_lots c_now_lots_count a_now_lots_product a_now_lots_last a_now_lots_cost a_now_lots_state a_now_lots_byLast, rI cI a_now_lots_product 24 c_now_lots_product, rI cI a_now_lots_last 24 c_now_lots_last, rI cI a_now_lots_state 24 c_now_lots_state, rI cI a_now_lots_byLast 24 c_now_lots_byLast, oX2 a_now_orders c_now_orders_count c_now_orders_gifts a_now_orders_customer a_now_orders_product a_now_orders_open a_now_orders_due a_now_orders_life a_now_orders_byDue a_now_orders_had a_now_orders_stamps, rI cI a_now_orders_product 40 c_now_orders_product, rI cI a_now_orders_open 40 c_now_orders_open, rI cI a_now_orders_due 40 c_now_orders_due, rI cI a_now_orders_life 40 c_now_orders_life, rI cI a_now_orders_byDue 40 c_now_orders_byDue, rI cI a_now_orders_had 960 c_now_orders_had, rI cI a_now_orders_stamps 960 c_now_orders_stamps, rI cI a_rest 24 c_rest] sz)) (va_Qi (fun (r2 : Int32) (_ : Unit) => r9 = .ok r2) (fun _ t => va_P D vwCl [oX7 a0 a_now a_past c_acts c_nextSlot a_plan a_picker a_rest a_packed, oX6 a_now c_now_today c_now_products c_now_itemCount a_now_items a_now_books a_now_terms a_now_shelves a_now_lots a_now_orders, oX5 a_now_shelves c_now_shelves_lanes c_now_shelves_positions c_now_shelves_room c_now_shelves_gap c_now_shelves_places oc_now_shelves_picked a_now_shelves_lot a_now_shelves_pieces a_now_shelves_mark a_now_shelves_byDistance, rI cI a_now_shelves_lot 48 oc_now_shelves_lot, rI cI a_now_shelves_pieces 48 oc_now_shelves_pieces, rI cI a_now_shelves_mark 48 oc_now_shelves_mark, rI cI a_now_shelves_byDistance 48 c_now_shelves_byDistance, oX1 a_now_lots c_now_lots_count a_now_lots_product a_now_lots_last a_now_lots_cost a_now_lots_state a_now_lots_byLast, rI cI a_now_lots_product 24 c_now_lots_product, rI cI a_now_lots_last 24 c_now_lots_last, rI cI a_now_lots_state 24 c_now_lots_state, rI cI a_now_lots_byLast 24 c_now_lots_byLast, oX2 a_now_orders c_now_orders_count oc_now_orders_gifts a_now_orders_customer a_now_orders_product a_now_orders_open a_now_orders_due a_now_orders_life a_now_orders_byDue a_now_orders_had a_now_orders_stamps, rI cI a_now_orders_product 40 c_now_orders_product, rI cI a_now_orders_open 40 oc_now_orders_open, rI cI a_now_orders_due 40 c_now_orders_due, rI cI a_now_orders_life 40 c_now_orders_life, rI cI a_now_orders_byDue 40 c_now_orders_byDue, rI cI a_now_orders_had 960 oc_now_orders_had, rI cI a_now_orders_stamps 960 oc_now_orders_stamps, rI cI a_rest 24 oc_rest] t.heap) (va_A [oX7 a0 a_now a_past c_acts c_nextSlot a_plan a_picker a_rest a_packed, oX6 a_now c_now_today c_now_products c_now_itemCount a_now_items a_now_books a_now_terms a_now_shelves a_now_lots a_now_orders, oX5 a_now_shelves c_now_shelves_lanes c_now_shelves_positions c_now_shelves_room c_now_shelves_gap c_now_shelves_places c_now_shelves_picked a_now_shelves_lot a_now_shelves_pieces a_now_shelves_mark a_now_shelves_byDistance, rI cI a_now_shelves_lot 48 c_now_shelves_lot, rI cI a_now_shelves_pieces 48 c_now_shelves_pieces, rI cI a_now_shelves_mark 48 c_now_shelves_mark, rI cI a_now_shelves_byDistance 48 c_now_shelves_byDistance, oX1 a_now_lots c_now_lots_count a_now_lots_product a_now_lots_last a_now_lots_cost a_now_lots_state a_now_lots_byLast, rI cI a_now_lots_product 24 c_now_lots_product, rI cI a_now_lots_last 24 c_now_lots_last, rI cI a_now_lots_state 24 c_now_lots_state, rI cI a_now_lots_byLast 24 c_now_lots_byLast, oX2 a_now_orders c_now_orders_count c_now_orders_gifts a_now_orders_customer a_now_orders_product a_now_orders_open a_now_orders_due a_now_orders_life a_now_orders_byDue a_now_orders_had a_now_orders_stamps, rI cI a_now_orders_product 40 c_now_orders_product, rI cI a_now_orders_open 40 c_now_orders_open, rI cI a_now_orders_due 40 c_now_orders_due, rI cI a_now_orders_life 40 c_now_orders_life, rI cI a_now_orders_byDue 40 c_now_orders_byDue, rI cI a_now_orders_had 960 c_now_orders_had, rI cI a_now_orders_stamps 960 c_now_orders_stamps, rI cI a_rest 24 c_rest] sz)) (vx_X (fun (_ : Unit) => True) (fun E _ t => r9 = .error E ∧ va_P D vwCl [oX7 a0 a_now a_past c_acts c_nextSlot a_plan a_picker a_rest a_packed, oX6 a_now c_now_today c_now_products c_now_itemCount a_now_items a_now_books a_now_terms a_now_shelves a_now_lots a_now_orders, oX5 a_now_shelves c_now_shelves_lanes c_now_shelves_positions c_now_shelves_room c_now_shelves_gap c_now_shelves_places oc_now_shelves_picked a_now_shelves_lot a_now_shelves_pieces a_now_shelves_mark a_now_shelves_byDistance, rI cI a_now_shelves_lot 48 oc_now_shelves_lot, rI cI a_now_shelves_pieces 48 oc_now_shelves_pieces, rI cI a_now_shelves_mark 48 oc_now_shelves_mark, rI cI a_now_shelves_byDistance 48 c_now_shelves_byDistance, oX1 a_now_lots c_now_lots_count a_now_lots_product a_now_lots_last a_now_lots_cost a_now_lots_state a_now_lots_byLast, rI cI a_now_lots_product 24 c_now_lots_product, rI cI a_now_lots_last 24 c_now_lots_last, rI cI a_now_lots_state 24 c_now_lots_state, rI cI a_now_lots_byLast 24 c_now_lots_byLast, oX2 a_now_orders c_now_orders_count oc_now_orders_gifts a_now_orders_customer a_now_orders_product a_now_orders_open a_now_orders_due a_now_orders_life a_now_orders_byDue a_now_orders_had a_now_orders_stamps, rI cI a_now_orders_product 40 c_now_orders_product, rI cI a_now_orders_open 40 oc_now_orders_open, rI cI a_now_orders_due 40 c_now_orders_due, rI cI a_now_orders_life 40 c_now_orders_life, rI cI a_now_orders_byDue 40 c_now_orders_byDue, rI cI a_now_orders_had 960 oc_now_orders_had, rI cI a_now_orders_stamps 960 oc_now_orders_stamps, rI cI a_rest 24 oc_rest] t.heap) (va_A [oX7 a0 a_now a_past c_acts c_nextSlot a_plan a_picker a_rest a_packed, oX6 a_now c_now_today c_now_products c_now_itemCount a_now_items a_now_books a_now_terms a_now_shelves a_now_lots a_now_orders, oX5 a_now_shelves c_now_shelves_lanes c_now_shelves_positions c_now_shelves_room c_now_shelves_gap c_now_shelves_places c_now_shelves_picked a_now_shelves_lot a_now_shelves_pieces a_now_shelves_mark a_now_shelves_byDistance, rI cI a_now_shelves_lot 48 c_now_shelves_lot, rI cI a_now_shelves_pieces 48 c_now_shelves_pieces, rI cI a_now_shelves_mark 48 c_now_shelves_mark, rI cI a_now_shelves_byDistance 48 c_now_shelves_byDistance, oX1 a_now_lots c_now_lots_count a_now_lots_product a_now_lots_last a_now_lots_cost a_now_lots_state a_now_lots_byLast, rI cI a_now_lots_product 24 c_now_lots_product, rI cI a_now_lots_last 24 c_now_lots_last, rI cI a_now_lots_state 24 c_now_lots_state, rI cI a_now_lots_byLast 24 c_now_lots_byLast, oX2 a_now_orders c_now_orders_count c_now_orders_gifts a_now_orders_customer a_now_orders_product a_now_orders_open a_now_orders_due a_now_orders_life a_now_orders_byDue a_now_orders_had a_now_orders_stamps, rI cI a_now_orders_product 40 c_now_orders_product, rI cI a_now_orders_open 40 c_now_orders_open, rI cI a_now_orders_due 40 c_now_orders_due, rI cI a_now_orders_life 40 c_now_orders_life, rI cI a_now_orders_byDue 40 c_now_orders_byDue, rI cI a_now_orders_had 960 c_now_orders_had, rI cI a_now_orders_stamps 960 c_now_orders_stamps, rI cI a_rest 24 c_rest] sz)) 1 6 (va_A [oX7 a0 a_now a_past c_acts c_nextSlot a_plan a_picker a_rest a_packed, oX6 a_now c_now_today c_now_products c_now_itemCount a_now_items a_now_books a_now_terms a_now_shelves a_now_lots a_now_orders, oX5 a_now_shelves c_now_shelves_lanes c_now_shelves_positions c_now_shelves_room c_now_shelves_gap c_now_shelves_places c_now_shelves_picked a_now_shelves_lot a_now_shelves_pieces a_now_shelves_mark a_now_shelves_byDistance, rI cI a_now_shelves_lot 48 c_now_shelves_lot, rI cI a_now_shelves_pieces 48 c_now_shelves_pieces, rI cI a_now_shelves_mark 48 c_now_shelves_mark, rI cI a_now_shelves_byDistance 48 c_now_shelves_byDistance, oX1 a_now_lots c_now_lots_count a_now_lots_product a_now_lots_last a_now_lots_cost a_now_lots_state a_now_lots_byLast, rI cI a_now_lots_product 24 c_now_lots_product, rI cI a_now_lots_last 24 c_now_lots_last, rI cI a_now_lots_state 24 c_now_lots_state, rI cI a_now_lots_byLast 24 c_now_lots_byLast, oX2 a_now_orders c_now_orders_count c_now_orders_gifts a_now_orders_customer a_now_orders_product a_now_orders_open a_now_orders_due a_now_orders_life a_now_orders_byDue a_now_orders_had a_now_orders_stamps, rI cI a_now_orders_product 40 c_now_orders_product, rI cI a_now_orders_open 40 c_now_orders_open, rI cI a_now_orders_due 40 c_now_orders_due, rI cI a_now_orders_life 40 c_now_orders_life, rI cI a_now_orders_byDue 40 c_now_orders_byDue, rI cI a_now_orders_had 960 c_now_orders_had, rI cI a_now_orders_stamps 960 c_now_orders_stamps, rI cI a_rest 24 c_rest] sz) := by
  refine vx_ofW (cc := cX7_unfilled) (maxL := 2) (ret := (some .int)) (by decide +kernel) rfl ?_
  intro p e s m args below meth c s₁ B hml hno hv
  obtain ⟨rfl, hsz, hP, hK, hD0, hB0, hE⟩ := hv
  subst hsz
  have hx := B.exec
  have hb := B.bytes
  have hr := B.returns
  have hts := atoms_spec (ws := (wz yX7_unfilled cX7_unfilled 2 (some .int))) B.pre
  have hown : s.vm.findClass RX7 = some m.cls := findClass_of_methodNamed B.named
  have hlocks := B.notSynchronized
  have hD := hD0.self (sz := s.heap.size)
  have hAB : ∀ q : Nat, va_A [oX7 a0 a_now a_past c_acts c_nextSlot a_plan a_picker a_rest a_packed, oX6 a_now c_now_today c_now_products c_now_itemCount a_now_items a_now_books a_now_terms a_now_shelves a_now_lots a_now_orders, oX5 a_now_shelves c_now_shelves_lanes c_now_shelves_positions c_now_shelves_room c_now_shelves_gap c_now_shelves_places c_now_shelves_picked a_now_shelves_lot a_now_shelves_pieces a_now_shelves_mark a_now_shelves_byDistance, rI cI a_now_shelves_lot 48 c_now_shelves_lot, rI cI a_now_shelves_pieces 48 c_now_shelves_pieces, rI cI a_now_shelves_mark 48 c_now_shelves_mark, rI cI a_now_shelves_byDistance 48 c_now_shelves_byDistance, oX1 a_now_lots c_now_lots_count a_now_lots_product a_now_lots_last a_now_lots_cost a_now_lots_state a_now_lots_byLast, rI cI a_now_lots_product 24 c_now_lots_product, rI cI a_now_lots_last 24 c_now_lots_last, rI cI a_now_lots_state 24 c_now_lots_state, rI cI a_now_lots_byLast 24 c_now_lots_byLast, oX2 a_now_orders c_now_orders_count c_now_orders_gifts a_now_orders_customer a_now_orders_product a_now_orders_open a_now_orders_due a_now_orders_life a_now_orders_byDue a_now_orders_had a_now_orders_stamps, rI cI a_now_orders_product 40 c_now_orders_product, rI cI a_now_orders_open 40 c_now_orders_open, rI cI a_now_orders_due 40 c_now_orders_due, rI cI a_now_orders_life 40 c_now_orders_life, rI cI a_now_orders_byDue 40 c_now_orders_byDue, rI cI a_now_orders_had 960 c_now_orders_had, rI cI a_now_orders_stamps 960 c_now_orders_stamps, rI cI a_rest 24 c_rest] s.heap.size q → B0 ≤ q := va_A_B hD0 hB0
  generalize hAe : va_A [oX7 a0 a_now a_past c_acts c_nextSlot a_plan a_picker a_rest a_packed, oX6 a_now c_now_today c_now_products c_now_itemCount a_now_items a_now_books a_now_terms a_now_shelves a_now_lots a_now_orders, oX5 a_now_shelves c_now_shelves_lanes c_now_shelves_positions c_now_shelves_room c_now_shelves_gap c_now_shelves_places c_now_shelves_picked a_now_shelves_lot a_now_shelves_pieces a_now_shelves_mark a_now_shelves_byDistance, rI cI a_now_shelves_lot 48 c_now_shelves_lot, rI cI a_now_shelves_pieces 48 c_now_shelves_pieces, rI cI a_now_shelves_mark 48 c_now_shelves_mark, rI cI a_now_shelves_byDistance 48 c_now_shelves_byDistance, oX1 a_now_lots c_now_lots_count a_now_lots_product a_now_lots_last a_now_lots_cost a_now_lots_state a_now_lots_byLast, rI cI a_now_lots_product 24 c_now_lots_product, rI cI a_now_lots_last 24 c_now_lots_last, rI cI a_now_lots_state 24 c_now_lots_state, rI cI a_now_lots_byLast 24 c_now_lots_byLast, oX2 a_now_orders c_now_orders_count c_now_orders_gifts a_now_orders_customer a_now_orders_product a_now_orders_open a_now_orders_due a_now_orders_life a_now_orders_byDue a_now_orders_had a_now_orders_stamps, rI cI a_now_orders_product 40 c_now_orders_product, rI cI a_now_orders_open 40 c_now_orders_open, rI cI a_now_orders_due 40 c_now_orders_due, rI cI a_now_orders_life 40 c_now_orders_life, rI cI a_now_orders_byDue 40 c_now_orders_byDue, rI cI a_now_orders_had 960 c_now_orders_had, rI cI a_now_orders_stamps 960 c_now_orders_stamps, rI cI a_rest 24 c_rest] s.heap.size = A at hD hAB ⊢
  have hA : ∀ q : Nat, s.heap.size ≤ q → A q := fun q h => by rw [← hAe]; exact Or.inr h
  have hFa := hA
  have hS : va_S A s.heap s.heap [] := va_S.rf
  have hBn := fun (H : Heap) (locs : List Loc) (h : va_S A s.heap H locs) => Nat.le_trans hB0 h.1
  have hEn := fun (H : Heap) (locs : List Loc) (h : va_S A s.heap H locs) => gE_now hE h hAB
  have hl := lv_entry ([.ref a0, .int v1]) (n := 2) (Nat.le_of_ble_eq_true rfl)
  rw [lg_entry_eq]
  generalize (lg_sl ([.ref a0, .int v1]) ++ List.replicate (2 - (lg_sl ([.ref a0, .int v1])).length) Slot.unset).toArray = ls at hl ⊢
  have hl : lv_has ls 2 [(0, .ref a0), (1, .int v1)] := hl
  obtain ⟨H, hHe⟩ : ∃ H : Heap, H = s.heap := ⟨_, rfl⟩
  have hP : va_P D vwCl [oX7 a0 a_now a_past c_acts c_nextSlot a_plan a_picker a_rest a_packed, oX6 a_now c_now_today c_now_products c_now_itemCount a_now_items a_now_books a_now_terms a_now_shelves a_now_lots a_now_orders, oX5 a_now_shelves c_now_shelves_lanes c_now_shelves_positions c_now_shelves_room c_now_shelves_gap c_now_shelves_places c_now_shelves_picked a_now_shelves_lot a_now_shelves_pieces a_now_shelves_mark a_now_shelves_byDistance, rI cI a_now_shelves_lot 48 c_now_shelves_lot, rI cI a_now_shelves_pieces 48 c_now_shelves_pieces, rI cI a_now_shelves_mark 48 c_now_shelves_mark, rI cI a_now_shelves_byDistance 48 c_now_shelves_byDistance, oX1 a_now_lots c_now_lots_count a_now_lots_product a_now_lots_last a_now_lots_cost a_now_lots_state a_now_lots_byLast, rI cI a_now_lots_product 24 c_now_lots_product, rI cI a_now_lots_last 24 c_now_lots_last, rI cI a_now_lots_state 24 c_now_lots_state, rI cI a_now_lots_byLast 24 c_now_lots_byLast, oX2 a_now_orders c_now_orders_count c_now_orders_gifts a_now_orders_customer a_now_orders_product a_now_orders_open a_now_orders_due a_now_orders_life a_now_orders_byDue a_now_orders_had a_now_orders_stamps, rI cI a_now_orders_product 40 c_now_orders_product, rI cI a_now_orders_open 40 c_now_orders_open, rI cI a_now_orders_due 40 c_now_orders_due, rI cI a_now_orders_life 40 c_now_orders_life, rI cI a_now_orders_byDue 40 c_now_orders_byDue, rI cI a_now_orders_had 960 c_now_orders_had, rI cI a_now_orders_stamps 960 c_now_orders_stamps, rI cI a_rest 24 c_rest] H := by rw [hHe]; exact hP
  have hS : va_S A s.heap H [] := by rw [hHe]; exact hS
  refine W_heq hHe ?_
  unfold f_X7_unfilled at hf
  refine lv_aload_n hx hb dX7_unfilled_0 rfl (lv_at hl 0 rfl) ?_
  refine lv_iload_n hx hb dX7_unfilled_1 rfl (lv_at hl 1 rfl) ?_
  obtain ⟨r1, hc2, hf⟩ := ob1 hf
  refine rx_callv (r9 := r1) (vx_runV (As := [.int v1]) (rest := []) ⟨hx, hb, hml, hown, hts⟩ (k_X7_needProduct l hl0 D cI cJ cZ cS B0 H a0 a_now a_past a_plan a_picker a_rest a_packed a_now_items a_now_books a_now_terms a_now_shelves a_now_lots a_now_orders c_acts c_nextSlot c_now_today c_now_products c_now_itemCount v1 r1 hc2) (cwV 1 hts (gV tb_647 tb_649 ts_12 tb_1 tb_650) rfl rfl rfl (by decide +kernel) ⟨Nat.le_of_ble_eq_true rfl, Nat.le_of_ble_eq_true rfl⟩) ⟨rp_blind, va_recv hK hP (ci := 6) (q0 := 0) rfl rfl, rp_pre (hP.sub [0, 1] rfl) hK (hBn _ _ hS) (hEn _ _ hS)⟩ rfl rfl hl.1 rfl (lv_room (Nat.le_of_ble_eq_true rfl)) dX7_unfilled_2 ⟨Nat.le_of_ble_eq_true rfl, Nat.le_of_ble_eq_true rfl⟩) hS hA (fun E3 ce q9 H1 locs1 hE9 hz9 hk9 hS hq9 hv9 hcl9 => ?_) (fun hr9 => ?_)
  · subst hE9
    have hf := mx_e hf
    cases hf
    exact vx_out (fun x hx => (hno x hx).elim) hlocks hq9 hv9 hcl9 (fun t ht hal => ⟨(), trivial, ⟨rfl, (by show va_P D vwCl _ t.heap; rw [ht]; exact va_Pk hP hk9)⟩, hS.F ht⟩) hS.2.2 (Nat.le_of_ble_eq_true rfl) (Nat.le_of_ble_eq_true rfl)
  · subst hr9
    have hf := mx_o hf
    refine lv_aload_n hx hb dX7_unfilled_5 rfl (lv_at hl 0 rfl) ?_
    refine lv_iload_n hx hb dX7_unfilled_6 rfl (lv_at hl 1 rfl) ?_
    obtain ⟨r4, o6, o7, o8, o9, o10, o11, o12, o13, o14, hc5, hf⟩ := ob10 hf
    refine rw_calli (r := r4) (va_runV (As := [.int v1]) (rest := []) ⟨hx, hb, hml, hown, hts⟩ (k_X7_leftOpen l hl0 D cI cJ cZ cS B0 H.size a0 a_now a_past a_plan a_picker a_rest a_packed a_now_items a_now_books a_now_terms a_now_shelves a_now_lots a_now_orders a_now_shelves_lot a_now_shelves_pieces a_now_shelves_mark a_now_shelves_byDistance a_now_lots_product a_now_lots_last a_now_lots_cost a_now_lots_state a_now_lots_byLast a_now_orders_customer a_now_orders_product a_now_orders_open a_now_orders_due a_now_orders_life a_now_orders_byDue a_now_orders_had a_now_orders_stamps c_acts c_nextSlot c_now_today c_now_products c_now_itemCount c_now_shelves_lanes c_now_shelves_positions c_now_shelves_room c_now_shelves_gap c_now_shelves_places c_now_shelves_picked c_now_shelves_lot c_now_shelves_pieces c_now_shelves_mark c_now_shelves_byDistance c_now_lots_count c_now_lots_product c_now_lots_last c_now_lots_state c_now_lots_byLast c_now_orders_count c_now_orders_gifts c_now_orders_product c_now_orders_open c_now_orders_due c_now_orders_life c_now_orders_byDue c_now_orders_had c_now_orders_stamps c_rest v1 r4 o6 o7 o8 o9 o10 o11 o12 o13 o14 hc5) (cwV 1 hts (gV tb_427 tb_429 ts_4 tb_1 tb_430) rfl rfl rfl (by decide +kernel) ⟨Nat.le_of_ble_eq_true rfl, Nat.le_of_ble_eq_true rfl⟩) ⟨wp_blind, va_recv hK hP (ci := 6) (q0 := 0) rfl rfl, wp_pre (hP.sub [0, 1, 2, 3, 4, 5, 6, 7, 8, 9, 10, 11, 12, 13, 14, 15, 16, 17, 18, 19, 20] rfl) hK (va_D.sub (hD.weaken (fun _ _ _ h9 => hAB _ h9)) [0, 1, 2, 3, 4, 5, 6, 7, 8, 9, 10, 11, 12, 13, 14, 15, 16, 17, 18, 19, 20] rfl rfl) (hBn _ _ hS) (hEn _ _ hS)⟩ rfl rfl hl.1 rfl (lv_room (Nat.le_of_ble_eq_true rfl)) dX7_unfilled_7 ⟨Nat.le_of_ble_eq_true rfl, Nat.le_of_ble_eq_true rfl⟩) hP hD hS hA [oX7 a0 a_now a_past c_acts c_nextSlot a_plan a_picker a_rest a_packed, oX6 a_now c_now_today c_now_products c_now_itemCount a_now_items a_now_books a_now_terms a_now_shelves a_now_lots a_now_orders, oX5 a_now_shelves c_now_shelves_lanes c_now_shelves_positions c_now_shelves_room c_now_shelves_gap c_now_shelves_places o6 a_now_shelves_lot a_now_shelves_pieces a_now_shelves_mark a_now_shelves_byDistance, rI cI a_now_shelves_lot 48 o7, rI cI a_now_shelves_pieces 48 o8, rI cI a_now_shelves_mark 48 o9, rI cI a_now_shelves_byDistance 48 c_now_shelves_byDistance, oX1 a_now_lots c_now_lots_count a_now_lots_product a_now_lots_last a_now_lots_cost a_now_lots_state a_now_lots_byLast, rI cI a_now_lots_product 24 c_now_lots_product, rI cI a_now_lots_last 24 c_now_lots_last, rI cI a_now_lots_state 24 c_now_lots_state, rI cI a_now_lots_byLast 24 c_now_lots_byLast, oX2 a_now_orders c_now_orders_count o10 a_now_orders_customer a_now_orders_product a_now_orders_open a_now_orders_due a_now_orders_life a_now_orders_byDue a_now_orders_had a_now_orders_stamps, rI cI a_now_orders_product 40 c_now_orders_product, rI cI a_now_orders_open 40 o11, rI cI a_now_orders_due 40 c_now_orders_due, rI cI a_now_orders_life 40 c_now_orders_life, rI cI a_now_orders_byDue 40 c_now_orders_byDue, rI cI a_now_orders_had 960 o12, rI cI a_now_orders_stamps 960 o13, rI cI a_rest 24 o14] 21 [0, 1, 2, 3, 4, 5, 6, 7, 8, 9, 10, 11, 12, 13, 14, 15, 16, 17, 18, 19, 20] [] rfl rfl rfl rfl (by decide +kernel) rfl (fun H locs hP hD hS => ?_)
    cases hf
    refine vx_ret ?_
    refine W.widen (k := 1) (n := 6) (Nat.le_of_ble_eq_true rfl) (Nat.le_of_ble_eq_true rfl) ?_
    exact W.iret hx hb hr (fun t ht hW => ⟨⟨_, (), rfl, rfl, (by show va_P D vwCl _ t.heap; rw [ht]; exact hP)⟩, hS.F ht⟩) hS.2.2 dX7_unfilled_10
def f_X7_lackAt_L30_J72 (n1 : Int32) (n2 : Int32) (n3 : Int32) (n4 : Int32) (c_now_shelves_places : Int32) (c_now_shelves_lot : Nat → Int32) (c_now_shelves_pieces : Nat → Int32) (c_now_lots_count : Int32) (c_now_lots_product : Nat → Int32) (c_now_lots_last : Nat → Int32) (c_now_lots_state : Nat → Int32) (c_now_orders_count : Int32) (c_now_orders_product : Nat → Int32) (c_now_orders_open : Nat → Int32) (c_now_orders_due : Nat → Int32) (c_now_orders_life : Nat → Int32) (c_rest : Nat → Int32) : Option ((Int32 × Int32) ⊕ Int32) :=
  some (.inl (n3, n4 + 1))
def f_X7_lackAt_L30 (n1 : Int32) (n2 : Int32) (c_now_shelves_places : Int32) (c_now_shelves_lot : Nat → Int32) (c_now_shelves_pieces : Nat → Int32) (c_now_lots_count : Int32) (c_now_lots_product : Nat → Int32) (c_now_lots_last : Nat → Int32) (c_now_lots_state : Nat → Int32) (c_now_orders_count : Int32) (c_now_orders_product : Nat → Int32) (c_now_orders_open : Nat → Int32) (c_now_orders_due : Nat → Int32) (c_now_orders_life : Nat → Int32) (c_rest : Nat → Int32) (n3 : Int32) (n4 : Int32) : Option ((Int32 × Int32) ⊕ Int32) :=
  (if c_now_lots_count ≤ n4 then some (.inr n3)
  else bnd1 (f_X1_isFit n4 n1 n2 c_now_lots_count c_now_lots_product c_now_lots_last c_now_lots_state) (fun r7 =>
  ((if r7 = 0 then f_X7_lackAt_L30_J72 n1 n2 n3 n4 c_now_shelves_places c_now_shelves_lot c_now_shelves_pieces c_now_lots_count c_now_lots_product c_now_lots_last c_now_lots_state c_now_orders_count c_now_orders_product c_now_orders_open c_now_orders_due c_now_orders_life c_rest
  else gd n4 24 (f_X7_lackAt_L30_J72 n1 n2 (n3 - (c_rest n4.toNatClampNeg)) n4 c_now_shelves_places c_now_shelves_lot c_now_shelves_pieces c_now_lots_count c_now_lots_product c_now_lots_last c_now_lots_state c_now_orders_count c_now_orders_product c_now_orders_open c_now_orders_due c_now_orders_life c_rest)))))
def f_X7_lackAt (v1 : Int32) (v2 : Int32) (c_now_shelves_places : Int32) (c_now_shelves_lot : Nat → Int32) (c_now_shelves_pieces : Nat → Int32) (c_now_lots_count : Int32) (c_now_lots_product : Nat → Int32) (c_now_lots_last : Nat → Int32) (c_now_lots_state : Nat → Int32) (c_now_orders_count : Int32) (c_now_orders_product : Nat → Int32) (c_now_orders_open : Nat → Int32) (c_now_orders_due : Nat → Int32) (c_now_orders_life : Nat → Int32) (c_rest : Nat → Int32) : Option (Int32 × (Nat → Int32)) :=
  bnd1 (f_X2_openFrom v1 v2 c_now_orders_count c_now_orders_product c_now_orders_open c_now_orders_due c_now_orders_life) (fun r1 =>
  (bnd1 (f_X5_countLots c_now_shelves_places c_now_shelves_lot c_now_shelves_pieces c_rest) (fun o5 =>
  ((bnd1 (loop (fun z => f_X7_lackAt_L30 v1 v2 c_now_shelves_places c_now_shelves_lot c_now_shelves_pieces c_now_lots_count c_now_lots_product c_now_lots_last c_now_lots_state c_now_orders_count c_now_orders_product c_now_orders_open c_now_orders_due c_now_orders_life o5 z.1 z.2) fu (r1, 0)) fun m12 =>
  some (m12, o5))))))
set_option maxHeartbeats 4000000 in
set_option maxRecDepth 100000 in
theorem k_X7_lackAt (l : Launch) (hl0 : l.stackTraces = false) (D : va_G) (cI cJ cZ cS : ClassId) (B0 : Nat) (sz : Nat) (a0 a_now a_past a_plan a_picker a_rest a_packed a_now_items a_now_books a_now_terms a_now_shelves a_now_lots a_now_orders a_now_shelves_lot a_now_shelves_pieces a_now_shelves_mark a_now_shelves_byDistance a_now_lots_product a_now_lots_last a_now_lots_cost a_now_lots_state a_now_lots_byLast a_now_orders_customer a_now_orders_product a_now_orders_open a_now_orders_due a_now_orders_life a_now_orders_byDue a_now_orders_had a_now_orders_stamps : Nat) (c_acts : Int32) (c_nextSlot : Int32) (c_now_today : Int32) (c_now_products : Int32) (c_now_itemCount : Int32) (c_now_shelves_lanes : Int32) (c_now_shelves_positions : Int32) (c_now_shelves_room : Int32) (c_now_shelves_gap : Int32) (c_now_shelves_places : Int32) (c_now_shelves_picked : Int64) (c_now_shelves_lot : Nat → Int32) (c_now_shelves_pieces : Nat → Int32) (c_now_lots_count : Int32) (c_now_lots_product : Nat → Int32) (c_now_lots_last : Nat → Int32) (c_now_lots_state : Nat → Int32) (c_now_orders_count : Int32) (c_now_orders_gifts : Int32) (c_now_orders_product : Nat → Int32) (c_now_orders_open : Nat → Int32) (c_now_orders_due : Nat → Int32) (c_now_orders_life : Nat → Int32) (c_rest : Nat → Int32) (v1 : Int32) (v2 : Int32) (r9 : Int32) (oc_rest : Nat → Int32)  (hf : f_X7_lackAt v1 v2 c_now_shelves_places c_now_shelves_lot c_now_shelves_pieces c_now_lots_count c_now_lots_product c_now_lots_last c_now_lots_state c_now_orders_count c_now_orders_product c_now_orders_open c_now_orders_due c_now_orders_life c_rest = some (r9, oc_rest)) : Met l yX7_lackAt (wz yX7_lackAt cX7_lackAt 5 (some .int)) ({ frames := 3, cells := 0, slots := 0, locals := 66 }) (va_Pc [.ref a0, .int v1, .int v2] (wp D cI cJ cZ cS B0 [oX7 a0 a_now a_past c_acts c_nextSlot a_plan a_picker a_rest a_packed, oX6 a_now c_now_today c_now_products c_now_itemCount a_now_items a_now_books a_now_terms a_now_shelves a_now_lots a_now_orders, oX5 a_now_shelves c_now_shelves_lanes c_now_shelves_positions c_now_shelves_room c_now_shelves_gap c_now_shelves_places c_now_shelves_picked a_now_shelves_lot a_now_shelves_pieces a_now_shelves_mark a_now_shelves_byDistance, rI cI a_now_shelves_lot 48 c_now_shelves_lot, rI cI a_now_shelves_pieces 48 c_now_shelves_pieces, oX1 a_now_lots c_now_lots_count a_now_lots_product a_now_lots_last a_now_lots_cost a_now_lots_state a_now_lots_byLast, rI cI a_now_lots_product 24 c_now_lots_product, rI cI a_now_lots_last 24 c_now_lots_last, rI cI a_now_lots_state 24 c_now_lots_state, oX2 a_now_orders c_now_orders_count c_now_orders_gifts a_now_orders_customer a_now_orders_product a_now_orders_open a_now_orders_due a_now_orders_life a_now_orders_byDue a_now_orders_had a_now_orders_stamps, rI cI a_now_orders_product 40 c_now_orders_product, rI cI a_now_orders_open 40 c_now_orders_open, rI cI a_now_orders_due 40 c_now_orders_due, rI cI a_now_orders_life 40 c_now_orders_life, rI cI a_rest 24 c_rest] sz)) (va_Qi (fun (r2 : Int32) (_ : Unit) => r2 = r9) (fun _ t => va_P D vwCl [oX7 a0 a_now a_past c_acts c_nextSlot a_plan a_picker a_rest a_packed, oX6 a_now c_now_today c_now_products c_now_itemCount a_now_items a_now_books a_now_terms a_now_shelves a_now_lots a_now_orders, oX5 a_now_shelves c_now_shelves_lanes c_now_shelves_positions c_now_shelves_room c_now_shelves_gap c_now_shelves_places c_now_shelves_picked a_now_shelves_lot a_now_shelves_pieces a_now_shelves_mark a_now_shelves_byDistance, rI cI a_now_shelves_lot 48 c_now_shelves_lot, rI cI a_now_shelves_pieces 48 c_now_shelves_pieces, oX1 a_now_lots c_now_lots_count a_now_lots_product a_now_lots_last a_now_lots_cost a_now_lots_state a_now_lots_byLast, rI cI a_now_lots_product 24 c_now_lots_product, rI cI a_now_lots_last 24 c_now_lots_last, rI cI a_now_lots_state 24 c_now_lots_state, oX2 a_now_orders c_now_orders_count c_now_orders_gifts a_now_orders_customer a_now_orders_product a_now_orders_open a_now_orders_due a_now_orders_life a_now_orders_byDue a_now_orders_had a_now_orders_stamps, rI cI a_now_orders_product 40 c_now_orders_product, rI cI a_now_orders_open 40 c_now_orders_open, rI cI a_now_orders_due 40 c_now_orders_due, rI cI a_now_orders_life 40 c_now_orders_life, rI cI a_rest 24 oc_rest] t.heap) (va_A [oX7 a0 a_now a_past c_acts c_nextSlot a_plan a_picker a_rest a_packed, oX6 a_now c_now_today c_now_products c_now_itemCount a_now_items a_now_books a_now_terms a_now_shelves a_now_lots a_now_orders, oX5 a_now_shelves c_now_shelves_lanes c_now_shelves_positions c_now_shelves_room c_now_shelves_gap c_now_shelves_places c_now_shelves_picked a_now_shelves_lot a_now_shelves_pieces a_now_shelves_mark a_now_shelves_byDistance, rI cI a_now_shelves_lot 48 c_now_shelves_lot, rI cI a_now_shelves_pieces 48 c_now_shelves_pieces, oX1 a_now_lots c_now_lots_count a_now_lots_product a_now_lots_last a_now_lots_cost a_now_lots_state a_now_lots_byLast, rI cI a_now_lots_product 24 c_now_lots_product, rI cI a_now_lots_last 24 c_now_lots_last, rI cI a_now_lots_state 24 c_now_lots_state, oX2 a_now_orders c_now_orders_count c_now_orders_gifts a_now_orders_customer a_now_orders_product a_now_orders_open a_now_orders_due a_now_orders_life a_now_orders_byDue a_now_orders_had a_now_orders_stamps, rI cI a_now_orders_product 40 c_now_orders_product, rI cI a_now_orders_open 40 c_now_orders_open, rI cI a_now_orders_due 40 c_now_orders_due, rI cI a_now_orders_life 40 c_now_orders_life, rI cI a_rest 24 c_rest] sz)) 0 0 (va_A [oX7 a0 a_now a_past c_acts c_nextSlot a_plan a_picker a_rest a_packed, oX6 a_now c_now_today c_now_products c_now_itemCount a_now_items a_now_books a_now_terms a_now_shelves a_now_lots a_now_orders, oX5 a_now_shelves c_now_shelves_lanes c_now_shelves_positions c_now_shelves_room c_now_shelves_gap c_now_shelves_places c_now_shelves_picked a_now_shelves_lot a_now_shelves_pieces a_now_shelves_mark a_now_shelves_byDistance, rI cI a_now_shelves_lot 48 c_now_shelves_lot, rI cI a_now_shelves_pieces 48 c_now_shelves_pieces, oX1 a_now_lots c_now_lots_count a_now_lots_product a_now_lots_last a_now_lots_cost a_now_lots_state a_now_lots_byLast, rI cI a_now_lots_product 24 c_now_lots_product, rI cI a_now_lots_last 24 c_now_lots_last, rI cI a_now_lots_state 24 c_now_lots_state, oX2 a_now_orders c_now_orders_count c_now_orders_gifts a_now_orders_customer a_now_orders_product a_now_orders_open a_now_orders_due a_now_orders_life a_now_orders_byDue a_now_orders_had a_now_orders_stamps, rI cI a_now_orders_product 40 c_now_orders_product, rI cI a_now_orders_open 40 c_now_orders_open, rI cI a_now_orders_due 40 c_now_orders_due, rI cI a_now_orders_life 40 c_now_orders_life, rI cI a_rest 24 c_rest] sz) := by
  refine Met.ofW (cc := cX7_lackAt) (maxL := 5) (ret := (some .int)) (by decide) rfl ?_
  intro p e s m args below meth c s₁ B hml hv
  obtain ⟨rfl, hsz, hP, hK, hD0, hB0, hE⟩ := hv
  subst hsz
  have hx := B.exec
  have hb := B.bytes
  have hr := B.returns
  have hts := atoms_spec (ws := (wz yX7_lackAt cX7_lackAt 5 (some .int))) B.pre
  have hown : s.vm.findClass RX7 = some m.cls := findClass_of_methodNamed B.named
  have hlocks := B.notSynchronized
  have hD := hD0.self (sz := s.heap.size)
  have hAB : ∀ q : Nat, va_A [oX7 a0 a_now a_past c_acts c_nextSlot a_plan a_picker a_rest a_packed, oX6 a_now c_now_today c_now_products c_now_itemCount a_now_items a_now_books a_now_terms a_now_shelves a_now_lots a_now_orders, oX5 a_now_shelves c_now_shelves_lanes c_now_shelves_positions c_now_shelves_room c_now_shelves_gap c_now_shelves_places c_now_shelves_picked a_now_shelves_lot a_now_shelves_pieces a_now_shelves_mark a_now_shelves_byDistance, rI cI a_now_shelves_lot 48 c_now_shelves_lot, rI cI a_now_shelves_pieces 48 c_now_shelves_pieces, oX1 a_now_lots c_now_lots_count a_now_lots_product a_now_lots_last a_now_lots_cost a_now_lots_state a_now_lots_byLast, rI cI a_now_lots_product 24 c_now_lots_product, rI cI a_now_lots_last 24 c_now_lots_last, rI cI a_now_lots_state 24 c_now_lots_state, oX2 a_now_orders c_now_orders_count c_now_orders_gifts a_now_orders_customer a_now_orders_product a_now_orders_open a_now_orders_due a_now_orders_life a_now_orders_byDue a_now_orders_had a_now_orders_stamps, rI cI a_now_orders_product 40 c_now_orders_product, rI cI a_now_orders_open 40 c_now_orders_open, rI cI a_now_orders_due 40 c_now_orders_due, rI cI a_now_orders_life 40 c_now_orders_life, rI cI a_rest 24 c_rest] s.heap.size q → B0 ≤ q := va_A_B hD0 hB0
  generalize hAe : va_A [oX7 a0 a_now a_past c_acts c_nextSlot a_plan a_picker a_rest a_packed, oX6 a_now c_now_today c_now_products c_now_itemCount a_now_items a_now_books a_now_terms a_now_shelves a_now_lots a_now_orders, oX5 a_now_shelves c_now_shelves_lanes c_now_shelves_positions c_now_shelves_room c_now_shelves_gap c_now_shelves_places c_now_shelves_picked a_now_shelves_lot a_now_shelves_pieces a_now_shelves_mark a_now_shelves_byDistance, rI cI a_now_shelves_lot 48 c_now_shelves_lot, rI cI a_now_shelves_pieces 48 c_now_shelves_pieces, oX1 a_now_lots c_now_lots_count a_now_lots_product a_now_lots_last a_now_lots_cost a_now_lots_state a_now_lots_byLast, rI cI a_now_lots_product 24 c_now_lots_product, rI cI a_now_lots_last 24 c_now_lots_last, rI cI a_now_lots_state 24 c_now_lots_state, oX2 a_now_orders c_now_orders_count c_now_orders_gifts a_now_orders_customer a_now_orders_product a_now_orders_open a_now_orders_due a_now_orders_life a_now_orders_byDue a_now_orders_had a_now_orders_stamps, rI cI a_now_orders_product 40 c_now_orders_product, rI cI a_now_orders_open 40 c_now_orders_open, rI cI a_now_orders_due 40 c_now_orders_due, rI cI a_now_orders_life 40 c_now_orders_life, rI cI a_rest 24 c_rest] s.heap.size = A at hD hAB ⊢
  have hA : ∀ q : Nat, s.heap.size ≤ q → A q := fun q h => by rw [← hAe]; exact Or.inr h
  have hFa := hA
  have hS : va_S A s.heap s.heap [] := va_S.rf
  have hBn := fun (H : Heap) (locs : List Loc) (h : va_S A s.heap H locs) => Nat.le_trans hB0 h.1
  have hEn := fun (H : Heap) (locs : List Loc) (h : va_S A s.heap H locs) => gE_now hE h hAB
  have hl := lv_entry ([.ref a0, .int v1, .int v2]) (n := 5) (Nat.le_of_ble_eq_true rfl)
  rw [lg_entry_eq]
  generalize (lg_sl ([.ref a0, .int v1, .int v2]) ++ List.replicate (5 - (lg_sl ([.ref a0, .int v1, .int v2])).length) Slot.unset).toArray = ls at hl ⊢
  have hl : lv_has ls 5 [(0, .ref a0), (1, .int v1), (2, .int v2)] := hl
  obtain ⟨H, hHe⟩ : ∃ H : Heap, H = s.heap := ⟨_, rfl⟩
  have hP : va_P D vwCl [oX7 a0 a_now a_past c_acts c_nextSlot a_plan a_picker a_rest a_packed, oX6 a_now c_now_today c_now_products c_now_itemCount a_now_items a_now_books a_now_terms a_now_shelves a_now_lots a_now_orders, oX5 a_now_shelves c_now_shelves_lanes c_now_shelves_positions c_now_shelves_room c_now_shelves_gap c_now_shelves_places c_now_shelves_picked a_now_shelves_lot a_now_shelves_pieces a_now_shelves_mark a_now_shelves_byDistance, rI cI a_now_shelves_lot 48 c_now_shelves_lot, rI cI a_now_shelves_pieces 48 c_now_shelves_pieces, oX1 a_now_lots c_now_lots_count a_now_lots_product a_now_lots_last a_now_lots_cost a_now_lots_state a_now_lots_byLast, rI cI a_now_lots_product 24 c_now_lots_product, rI cI a_now_lots_last 24 c_now_lots_last, rI cI a_now_lots_state 24 c_now_lots_state, oX2 a_now_orders c_now_orders_count c_now_orders_gifts a_now_orders_customer a_now_orders_product a_now_orders_open a_now_orders_due a_now_orders_life a_now_orders_byDue a_now_orders_had a_now_orders_stamps, rI cI a_now_orders_product 40 c_now_orders_product, rI cI a_now_orders_open 40 c_now_orders_open, rI cI a_now_orders_due 40 c_now_orders_due, rI cI a_now_orders_life 40 c_now_orders_life, rI cI a_rest 24 c_rest] H := by rw [hHe]; exact hP
  have hS : va_S A s.heap H [] := by rw [hHe]; exact hS
  refine W_heq hHe ?_
  unfold f_X7_lackAt at hf
  refine gen_goW (fun WW hWW => ?_)
  have hL30 : ∀ (n : Nat) (n1 : Int32) (n2 : Int32) (c_rest : Nat → Int32) (n3 : Int32) (n4 : Int32) (e3 : Int32), loop (fun z => f_X7_lackAt_L30 n1 n2 c_now_shelves_places c_now_shelves_lot c_now_shelves_pieces c_now_lots_count c_now_lots_product c_now_lots_last c_now_lots_state c_now_orders_count c_now_orders_product c_now_orders_open c_now_orders_due c_now_orders_life c_rest z.1 z.2) n (n3, n4) = some e3 → (∀ (H : Heap) (locs : List Loc) (ls : Array Slot), va_P D vwCl [oX7 a0 a_now a_past c_acts c_nextSlot a_plan a_picker a_rest a_packed, oX6 a_now c_now_today c_now_products c_now_itemCount a_now_items a_now_books a_now_terms a_now_shelves a_now_lots a_now_orders, oX5 a_now_shelves c_now_shelves_lanes c_now_shelves_positions c_now_shelves_room c_now_shelves_gap c_now_shelves_places c_now_shelves_picked a_now_shelves_lot a_now_shelves_pieces a_now_shelves_mark a_now_shelves_byDistance, rI cI a_now_shelves_lot 48 c_now_shelves_lot, rI cI a_now_shelves_pieces 48 c_now_shelves_pieces, oX1 a_now_lots c_now_lots_count a_now_lots_product a_now_lots_last a_now_lots_cost a_now_lots_state a_now_lots_byLast, rI cI a_now_lots_product 24 c_now_lots_product, rI cI a_now_lots_last 24 c_now_lots_last, rI cI a_now_lots_state 24 c_now_lots_state, oX2 a_now_orders c_now_orders_count c_now_orders_gifts a_now_orders_customer a_now_orders_product a_now_orders_open a_now_orders_due a_now_orders_life a_now_orders_byDue a_now_orders_had a_now_orders_stamps, rI cI a_now_orders_product 40 c_now_orders_product, rI cI a_now_orders_open 40 c_now_orders_open, rI cI a_now_orders_due 40 c_now_orders_due, rI cI a_now_orders_life 40 c_now_orders_life, rI cI a_rest 24 c_rest] H → va_D A [oX7 a0 a_now a_past c_acts c_nextSlot a_plan a_picker a_rest a_packed, oX6 a_now c_now_today c_now_products c_now_itemCount a_now_items a_now_books a_now_terms a_now_shelves a_now_lots a_now_orders, oX5 a_now_shelves c_now_shelves_lanes c_now_shelves_positions c_now_shelves_room c_now_shelves_gap c_now_shelves_places c_now_shelves_picked a_now_shelves_lot a_now_shelves_pieces a_now_shelves_mark a_now_shelves_byDistance, rI cI a_now_shelves_lot 48 c_now_shelves_lot, rI cI a_now_shelves_pieces 48 c_now_shelves_pieces, oX1 a_now_lots c_now_lots_count a_now_lots_product a_now_lots_last a_now_lots_cost a_now_lots_state a_now_lots_byLast, rI cI a_now_lots_product 24 c_now_lots_product, rI cI a_now_lots_last 24 c_now_lots_last, rI cI a_now_lots_state 24 c_now_lots_state, oX2 a_now_orders c_now_orders_count c_now_orders_gifts a_now_orders_customer a_now_orders_product a_now_orders_open a_now_orders_due a_now_orders_life a_now_orders_byDue a_now_orders_had a_now_orders_stamps, rI cI a_now_orders_product 40 c_now_orders_product, rI cI a_now_orders_open 40 c_now_orders_open, rI cI a_now_orders_due 40 c_now_orders_due, rI cI a_now_orders_life 40 c_now_orders_life, rI cI a_rest 24 c_rest] → va_S A s.heap H locs → lv_has ls 5 [(3, .int e3)] → WW H locs 0 0 (F0 m 78 ls [])) → ∀ (H : Heap) (locs : List Loc) (ls : Array Slot), va_P D vwCl [oX7 a0 a_now a_past c_acts c_nextSlot a_plan a_picker a_rest a_packed, oX6 a_now c_now_today c_now_products c_now_itemCount a_now_items a_now_books a_now_terms a_now_shelves a_now_lots a_now_orders, oX5 a_now_shelves c_now_shelves_lanes c_now_shelves_positions c_now_shelves_room c_now_shelves_gap c_now_shelves_places c_now_shelves_picked a_now_shelves_lot a_now_shelves_pieces a_now_shelves_mark a_now_shelves_byDistance, rI cI a_now_shelves_lot 48 c_now_shelves_lot, rI cI a_now_shelves_pieces 48 c_now_shelves_pieces, oX1 a_now_lots c_now_lots_count a_now_lots_product a_now_lots_last a_now_lots_cost a_now_lots_state a_now_lots_byLast, rI cI a_now_lots_product 24 c_now_lots_product, rI cI a_now_lots_last 24 c_now_lots_last, rI cI a_now_lots_state 24 c_now_lots_state, oX2 a_now_orders c_now_orders_count c_now_orders_gifts a_now_orders_customer a_now_orders_product a_now_orders_open a_now_orders_due a_now_orders_life a_now_orders_byDue a_now_orders_had a_now_orders_stamps, rI cI a_now_orders_product 40 c_now_orders_product, rI cI a_now_orders_open 40 c_now_orders_open, rI cI a_now_orders_due 40 c_now_orders_due, rI cI a_now_orders_life 40 c_now_orders_life, rI cI a_rest 24 c_rest] H → va_D A [oX7 a0 a_now a_past c_acts c_nextSlot a_plan a_picker a_rest a_packed, oX6 a_now c_now_today c_now_products c_now_itemCount a_now_items a_now_books a_now_terms a_now_shelves a_now_lots a_now_orders, oX5 a_now_shelves c_now_shelves_lanes c_now_shelves_positions c_now_shelves_room c_now_shelves_gap c_now_shelves_places c_now_shelves_picked a_now_shelves_lot a_now_shelves_pieces a_now_shelves_mark a_now_shelves_byDistance, rI cI a_now_shelves_lot 48 c_now_shelves_lot, rI cI a_now_shelves_pieces 48 c_now_shelves_pieces, oX1 a_now_lots c_now_lots_count a_now_lots_product a_now_lots_last a_now_lots_cost a_now_lots_state a_now_lots_byLast, rI cI a_now_lots_product 24 c_now_lots_product, rI cI a_now_lots_last 24 c_now_lots_last, rI cI a_now_lots_state 24 c_now_lots_state, oX2 a_now_orders c_now_orders_count c_now_orders_gifts a_now_orders_customer a_now_orders_product a_now_orders_open a_now_orders_due a_now_orders_life a_now_orders_byDue a_now_orders_had a_now_orders_stamps, rI cI a_now_orders_product 40 c_now_orders_product, rI cI a_now_orders_open 40 c_now_orders_open, rI cI a_now_orders_due 40 c_now_orders_due, rI cI a_now_orders_life 40 c_now_orders_life, rI cI a_rest 24 c_rest] → va_S A s.heap H locs → lv_has ls 5 [(0, .ref a0), (1, .int n1), (2, .int n2), (3, .int n3), (4, .int n4)] → WW H locs 0 0 (F0 m 30 ls []) := by
    intro n
    induction n with
    | zero =>
      intro n1 n2 c_rest n3 n4 e3 hlp
      exact absurd hlp (by simp [loop])
    | succ n ih =>
      intro n1 n2 c_rest n3 n4 e3 hlp K H locs ls hP hD hS hl
      obtain ⟨x9, hf, hlp⟩ := loop_s hlp
      have hf : f_X7_lackAt_L30 n1 n2 c_now_shelves_places c_now_shelves_lot c_now_shelves_pieces c_now_lots_count c_now_lots_product c_now_lots_last c_now_lots_state c_now_orders_count c_now_orders_product c_now_orders_open c_now_orders_due c_now_orders_life c_rest n3 n4 = some x9 := hf
      unfold f_X7_lackAt_L30 at hf
      have hJ72 : ∀ (n3 : Int32) (n4 : Int32), f_X7_lackAt_L30_J72 n1 n2 n3 n4 c_now_shelves_places c_now_shelves_lot c_now_shelves_pieces c_now_lots_count c_now_lots_product c_now_lots_last c_now_lots_state c_now_orders_count c_now_orders_product c_now_orders_open c_now_orders_due c_now_orders_life c_rest = some x9 → ∀ (H : Heap) (locs : List Loc) (ls : Array Slot), va_P D vwCl [oX7 a0 a_now a_past c_acts c_nextSlot a_plan a_picker a_rest a_packed, oX6 a_now c_now_today c_now_products c_now_itemCount a_now_items a_now_books a_now_terms a_now_shelves a_now_lots a_now_orders, oX5 a_now_shelves c_now_shelves_lanes c_now_shelves_positions c_now_shelves_room c_now_shelves_gap c_now_shelves_places c_now_shelves_picked a_now_shelves_lot a_now_shelves_pieces a_now_shelves_mark a_now_shelves_byDistance, rI cI a_now_shelves_lot 48 c_now_shelves_lot, rI cI a_now_shelves_pieces 48 c_now_shelves_pieces, oX1 a_now_lots c_now_lots_count a_now_lots_product a_now_lots_last a_now_lots_cost a_now_lots_state a_now_lots_byLast, rI cI a_now_lots_product 24 c_now_lots_product, rI cI a_now_lots_last 24 c_now_lots_last, rI cI a_now_lots_state 24 c_now_lots_state, oX2 a_now_orders c_now_orders_count c_now_orders_gifts a_now_orders_customer a_now_orders_product a_now_orders_open a_now_orders_due a_now_orders_life a_now_orders_byDue a_now_orders_had a_now_orders_stamps, rI cI a_now_orders_product 40 c_now_orders_product, rI cI a_now_orders_open 40 c_now_orders_open, rI cI a_now_orders_due 40 c_now_orders_due, rI cI a_now_orders_life 40 c_now_orders_life, rI cI a_rest 24 c_rest] H → va_D A [oX7 a0 a_now a_past c_acts c_nextSlot a_plan a_picker a_rest a_packed, oX6 a_now c_now_today c_now_products c_now_itemCount a_now_items a_now_books a_now_terms a_now_shelves a_now_lots a_now_orders, oX5 a_now_shelves c_now_shelves_lanes c_now_shelves_positions c_now_shelves_room c_now_shelves_gap c_now_shelves_places c_now_shelves_picked a_now_shelves_lot a_now_shelves_pieces a_now_shelves_mark a_now_shelves_byDistance, rI cI a_now_shelves_lot 48 c_now_shelves_lot, rI cI a_now_shelves_pieces 48 c_now_shelves_pieces, oX1 a_now_lots c_now_lots_count a_now_lots_product a_now_lots_last a_now_lots_cost a_now_lots_state a_now_lots_byLast, rI cI a_now_lots_product 24 c_now_lots_product, rI cI a_now_lots_last 24 c_now_lots_last, rI cI a_now_lots_state 24 c_now_lots_state, oX2 a_now_orders c_now_orders_count c_now_orders_gifts a_now_orders_customer a_now_orders_product a_now_orders_open a_now_orders_due a_now_orders_life a_now_orders_byDue a_now_orders_had a_now_orders_stamps, rI cI a_now_orders_product 40 c_now_orders_product, rI cI a_now_orders_open 40 c_now_orders_open, rI cI a_now_orders_due 40 c_now_orders_due, rI cI a_now_orders_life 40 c_now_orders_life, rI cI a_rest 24 c_rest] → va_S A s.heap H locs → lv_has ls 5 [(0, .ref a0), (1, .int n1), (2, .int n2), (3, .int n3), (4, .int n4)] → WW H locs 0 0 (F0 m 72 ls []) := by
        intro n3 n4 hf H locs ls hP hD hS hl
        unfold f_X7_lackAt_L30_J72 at hf
        refine (hWW _ _ _ _ _).mpr ?_
        refine lv_iinc (v := (n4 + 1)) (lv' := [(4, .int (n4 + 1)), (0, .ref a0), (1, .int n1), (2, .int n2), (3, .int n3)]) hx hb dX7_lackAt_72 hl (k := 4) rfl rfl (by decide) rfl (fun ls hl => ?_)
        refine lv_goto (tgt := 30) hx hb dX7_lackAt_75 (by decide) ?_
        obtain rfl := Option.some.inj hf
        exact (hWW _ _ _ _ _).mp (ih _ _ _ _ _ _ hlp K _ _ ls hP hD hS (lv_sub hl [1, 2, 3, 4, 0] rfl))
      refine (hWW _ _ _ _ _).mpr ?_
      refine lv_iload hx hb dX7_lackAt_30 (lv_at hl 4 rfl) ?_
      refine lv_aload_n hx hb dX7_lackAt_32 rfl (lv_at hl 0 rfl) ?_
      refine va_get (D := D) (ci := 6) (v := .ref a_now) (C := RX7) (T := TX7) (N := 8) hx hb hts (fun w h => mb (iX7 w h)) hown hK hP 0 rfl rfl 0 (by decide) (hts _ (mb tb_270)) (fun _ h9 => h9) rfl dX7_lackAt_33 ?_
      refine va_get (D := D) (ci := 5) (v := .ref a_now_lots) (C := RX6) (T := TX6) (N := 9) hx hb hts (fun w h => mb (iX6 w h)) hown hK hP 1 rfl rfl 7 (by decide) (hts _ (mb tb_171)) (fun _ h9 => h9) rfl dX7_lackAt_36 ?_
      refine va_get (D := D) (ci := 0) (v := .int c_now_lots_count) (C := RX1) (T := TX1) (N := 6) hx hb hts (fun w h => mb (iX1 w h)) hown hK hP 5 rfl rfl 0 (by decide) (hts _ (mb tb_89)) (fun _ h9 => h9) rfl dX7_lackAt_39 ?_
      refine lv_icmp_ge (tgt := 78) hx hb dX7_lackAt_42 (by decide) (fun h6 => ?_) (fun h6 => ?_)
      · have hf := ipos h6 hf
        obtain rfl := Option.some.inj hf
        cases lpx_r hlp
        exact (hWW _ _ _ _ _).mp (K _ _ ls hP hD hS (lv_sub hl [3] rfl))
      · have hf := ineg h6 hf
        refine lv_aload_n hx hb dX7_lackAt_45 rfl (lv_at hl 0 rfl) ?_
        refine va_get (D := D) (ci := 6) (v := .ref a_now) (C := RX7) (T := TX7) (N := 8) hx hb hts (fun w h => mb (iX7 w h)) hown hK hP 0 rfl rfl 0 (by decide) (hts _ (mb tb_270)) (fun _ h9 => h9) rfl dX7_lackAt_46 ?_
        refine va_get (D := D) (ci := 5) (v := .ref a_now_lots) (C := RX6) (T := TX6) (N := 9) hx hb hts (fun w h => mb (iX6 w h)) hown hK hP 1 rfl rfl 7 (by decide) (hts _ (mb tb_171)) (fun _ h9 => h9) rfl dX7_lackAt_49 ?_
        refine lv_iload hx hb dX7_lackAt_52 (lv_at hl 4 rfl) ?_
        refine lv_iload_n hx hb dX7_lackAt_54 rfl (lv_at hl 1 rfl) ?_
        refine lv_iload_n hx hb dX7_lackAt_55 rfl (lv_at hl 2 rfl) ?_
        obtain ⟨r7, hc8, hf⟩ := ob1 hf
        refine ro_calli (r := r7) (va_runV (As := [.int n4, .int n1, .int n2]) (rest := []) ⟨hx, hb, hml, hown, hts⟩ (k_X1_isFit l hl0 D cI cJ cZ cS B0 H a_now_lots a_now_lots_product a_now_lots_last a_now_lots_cost a_now_lots_state a_now_lots_byLast c_now_lots_count c_now_lots_product c_now_lots_last c_now_lots_state n4 n1 n2 r7 hc8) (cwV 3 hts (gV tb_359 tb_360 tb_361 tb_4 tb_362) rfl rfl rfl (by decide +kernel) ⟨Nat.le_of_ble_eq_true rfl, Nat.le_of_ble_eq_true rfl⟩) ⟨rp_blind, va_recv hK hP (ci := 0) (q0 := 5) rfl rfl, rp_pre (hP.sub [5, 6, 7, 8] rfl) hK (hBn _ _ hS) (hEn _ _ hS)⟩ rfl rfl hl.1 rfl (lv_room (Nat.le_of_ble_eq_true rfl)) dX7_lackAt_56 ⟨Nat.le_of_ble_eq_true rfl, Nat.le_of_ble_eq_true rfl⟩) ?_
        refine lv_if_eq (tgt := 72) hx hb dX7_lackAt_59 (by decide) (fun h9 => ?_) (fun h9 => ?_)
        · have hf := ipos h9 hf
          exact (hWW _ _ _ _ _).mp (hJ72 _ _ hf _ _ ls hP hD hS (lv_sub hl [0, 1, 2, 3, 4] rfl))
        · have hf := ineg h9 hf
          refine lv_iload_n hx hb dX7_lackAt_62 rfl (lv_at hl 3 rfl) ?_
          refine lv_aload_n hx hb dX7_lackAt_63 rfl (lv_at hl 0 rfl) ?_
          refine va_get (D := D) (ci := 6) (v := .ref a_rest) (C := RX7) (T := TX7) (N := 8) hx hb hts (fun w h => mb (iX7 w h)) hown hK hP 0 rfl rfl 6 (by decide) (hts _ (mb tb_276)) (fun _ h9 => h9) rfl dX7_lackAt_64 ?_
          refine lv_iload hx hb dX7_lackAt_67 (lv_at hl 4 rfl) ?_
          obtain ⟨h10, hf⟩ := ob_d hf
          refine va_iald hx hb hK hP 14 0 rfl rfl h10 dX7_lackAt_69 ?_
          refine lv_isub hx hb dX7_lackAt_70 ?_
          refine lv_istore_n (lv' := [(3, .int (n3 - (c_rest n4.toNatClampNeg))), (0, .ref a0), (1, .int n1), (2, .int n2), (4, .int n4)]) hx hb dX7_lackAt_71 rfl hl (by decide) rfl (fun ls hl => ?_)
          exact (hWW _ _ _ _ _).mp (hJ72 _ _ hf _ _ ls hP hD hS (lv_sub hl [1, 2, 3, 0, 4] rfl))
  refine (hWW _ _ _ _ _).mpr ?_
  refine lv_aload_n hx hb dX7_lackAt_0 rfl (lv_at hl 0 rfl) ?_
  refine va_get (D := D) (ci := 6) (v := .ref a_now) (C := RX7) (T := TX7) (N := 8) hx hb hts (fun w h => mb (iX7 w h)) hown hK hP 0 rfl rfl 0 (by decide) (hts _ (mb tb_270)) (fun _ h9 => h9) rfl dX7_lackAt_1 ?_
  refine va_get (D := D) (ci := 5) (v := .ref a_now_orders) (C := RX6) (T := TX6) (N := 9) hx hb hts (fun w h => mb (iX6 w h)) hown hK hP 1 rfl rfl 8 (by decide) (hts _ (mb tb_173)) (fun _ h9 => h9) rfl dX7_lackAt_4 ?_
  refine lv_iload_n hx hb dX7_lackAt_7 rfl (lv_at hl 1 rfl) ?_
  refine lv_iload_n hx hb dX7_lackAt_8 rfl (lv_at hl 2 rfl) ?_
  obtain ⟨r1, hc2, hf⟩ := ob1 hf
  refine ro_calli (r := r1) (va_runV (As := [.int v1, .int v2]) (rest := []) ⟨hx, hb, hml, hown, hts⟩ (k_X2_openFrom l hl0 D cI cJ cZ cS B0 H a_now_orders a_now_orders_customer a_now_orders_product a_now_orders_open a_now_orders_due a_now_orders_life a_now_orders_byDue a_now_orders_had a_now_orders_stamps c_now_orders_count c_now_orders_gifts c_now_orders_product c_now_orders_open c_now_orders_due c_now_orders_life v1 v2 r1 hc2) (cwV 2 hts (gV tb_443 tb_444 tb_445 tb_5 tb_446) rfl rfl rfl (by decide +kernel) ⟨Nat.le_of_ble_eq_true rfl, Nat.le_of_ble_eq_true rfl⟩) ⟨rp_blind, va_recv hK hP (ci := 1) (q0 := 9) rfl rfl, rp_pre (hP.sub [9, 10, 11, 12, 13] rfl) hK (hBn _ _ hS) (hEn _ _ hS)⟩ rfl rfl hl.1 rfl (lv_room (Nat.le_of_ble_eq_true rfl)) dX7_lackAt_9 ⟨Nat.le_of_ble_eq_true rfl, Nat.le_of_ble_eq_true rfl⟩) ?_
  refine lv_istore_n (lv' := [(3, .int r1), (0, .ref a0), (1, .int v1), (2, .int v2)]) hx hb dX7_lackAt_12 rfl hl (by decide) rfl (fun ls hl => ?_)
  refine lv_aload_n hx hb dX7_lackAt_13 rfl (lv_at hl 1 rfl) ?_
  refine va_get (D := D) (ci := 6) (v := .ref a_now) (C := RX7) (T := TX7) (N := 8) hx hb hts (fun w h => mb (iX7 w h)) hown hK hP 0 rfl rfl 0 (by decide) (hts _ (mb tb_270)) (fun _ h9 => h9) rfl dX7_lackAt_14 ?_
  refine va_get (D := D) (ci := 5) (v := .ref a_now_shelves) (C := RX6) (T := TX6) (N := 9) hx hb hts (fun w h => mb (iX6 w h)) hown hK hP 1 rfl rfl 6 (by decide) (hts _ (mb tb_169)) (fun _ h9 => h9) rfl dX7_lackAt_17 ?_
  refine lv_aload_n hx hb dX7_lackAt_20 rfl (lv_at hl 1 rfl) ?_
  refine va_get (D := D) (ci := 6) (v := .ref a_rest) (C := RX7) (T := TX7) (N := 8) hx hb hts (fun w h => mb (iX7 w h)) hown hK hP 0 rfl rfl 6 (by decide) (hts _ (mb tb_276)) (fun _ h9 => h9) rfl dX7_lackAt_21 ?_
  obtain ⟨o5, hc4, hf⟩ := ob1 hf
  refine rw_callv (va_runV (As := [.ref a_rest]) (rest := []) ⟨hx, hb, hml, hown, hts⟩ (k_X5_countLots l hl0 D cI cJ cZ cS B0 H.size a_now_shelves a_now_shelves_lot a_now_shelves_pieces a_now_shelves_mark a_now_shelves_byDistance a_rest c_now_shelves_lanes c_now_shelves_positions c_now_shelves_room c_now_shelves_gap c_now_shelves_places c_now_shelves_picked c_now_shelves_lot c_now_shelves_pieces c_rest o5 hc4) (cwV 1 hts (gV tb_342 tb_343 tb_344 tb_3 tb_345) rfl rfl rfl (by decide +kernel) ⟨Nat.le_of_ble_eq_true rfl, Nat.le_of_ble_eq_true rfl⟩) ⟨wp_blind, va_recv hK hP (ci := 4) (q0 := 2) rfl rfl, wp_pre (hP.sub [2, 3, 4, 14] rfl) hK (va_D.sub (hD.weaken (fun _ _ _ h9 => hAB _ h9)) [2, 3, 4, 14] rfl rfl) (hBn _ _ hS) (hEn _ _ hS)⟩ rfl rfl hl.1 rfl (lv_room (Nat.le_of_ble_eq_true rfl)) dX7_lackAt_24 ⟨Nat.le_of_ble_eq_true rfl, Nat.le_of_ble_eq_true rfl⟩) hP hD hS hA [oX7 a0 a_now a_past c_acts c_nextSlot a_plan a_picker a_rest a_packed, oX6 a_now c_now_today c_now_products c_now_itemCount a_now_items a_now_books a_now_terms a_now_shelves a_now_lots a_now_orders, oX5 a_now_shelves c_now_shelves_lanes c_now_shelves_positions c_now_shelves_room c_now_shelves_gap c_now_shelves_places c_now_shelves_picked a_now_shelves_lot a_now_shelves_pieces a_now_shelves_mark a_now_shelves_byDistance, rI cI a_now_shelves_lot 48 c_now_shelves_lot, rI cI a_now_shelves_pieces 48 c_now_shelves_pieces, oX1 a_now_lots c_now_lots_count a_now_lots_product a_now_lots_last a_now_lots_cost a_now_lots_state a_now_lots_byLast, rI cI a_now_lots_product 24 c_now_lots_product, rI cI a_now_lots_last 24 c_now_lots_last, rI cI a_now_lots_state 24 c_now_lots_state, oX2 a_now_orders c_now_orders_count c_now_orders_gifts a_now_orders_customer a_now_orders_product a_now_orders_open a_now_orders_due a_now_orders_life a_now_orders_byDue a_now_orders_had a_now_orders_stamps, rI cI a_now_orders_product 40 c_now_orders_product, rI cI a_now_orders_open 40 c_now_orders_open, rI cI a_now_orders_due 40 c_now_orders_due, rI cI a_now_orders_life 40 c_now_orders_life, rI cI a_rest 24 o5] 15 [2, 3, 4, 14] [0, 1, 5, 6, 7, 8, 9, 10, 11, 12, 13] rfl rfl rfl rfl (by decide +kernel) rfl (fun H locs hP hD hS => ?_)
  refine lv_iconst (v := 0) hx hb dX7_lackAt_27 (by decide) ?_
  refine lv_istore (lv' := [(4, .int 0), (3, .int r1), (0, .ref a0), (1, .int v1), (2, .int v2)]) hx hb dX7_lackAt_28 hl (by decide) rfl (fun ls hl => ?_)
  obtain ⟨m12, hc11, hf⟩ := ob1 hf
  refine (hWW _ _ _ _ _).mp (hL30 fu _ _ _ _ _ _ hc11 (fun H locs ls hP hD hS hl => ?_) _ _ ls hP hD hS (lv_sub hl [2, 3, 4, 1, 0] rfl))
  · refine (hWW _ _ _ _ _).mpr ?_
    refine lv_iload_n hx hb dX7_lackAt_78 rfl (lv_at hl 0 rfl) ?_
    cases hf
    refine W.widen (k := 0) (n := 0) (Nat.le_of_ble_eq_true rfl) (Nat.le_of_ble_eq_true rfl) ?_
    exact W.iret hx hb hr (fun t ht hW => ⟨⟨_, (), rfl, rfl, (by show va_P D vwCl _ t.heap; rw [ht]; exact hP)⟩, hS.F ht⟩) hS.2.2 dX7_lackAt_79
def f_X7_proofDay_L30_J130 (n1 : Int32) (n2 : Int32) (n3 : Int32) (n4 : Int32) (c_now_products : Int32) (c_now_shelves_places : Int32) (c_now_shelves_picked : Int64) (c_now_shelves_lot : Nat → Int32) (c_now_shelves_pieces : Nat → Int32) (c_now_shelves_mark : Nat → Int32) (c_now_shelves_byDistance : Nat → Int32) (c_now_lots_count : Int32) (c_now_lots_product : Nat → Int32) (c_now_lots_last : Nat → Int32) (c_now_lots_state : Nat → Int32) (c_now_lots_byLast : Nat → Int32) (c_now_orders_count : Int32) (c_now_orders_gifts : Int32) (c_now_orders_product : Nat → Int32) (c_now_orders_open : Nat → Int32) (c_now_orders_due : Nat → Int32) (c_now_orders_life : Nat → Int32) (c_now_orders_byDue : Nat → Int32) (c_now_orders_had : Nat → Int32) (c_now_orders_stamps : Nat → Int32) (c_rest : Nat → Int32) : Option ((Int32 × Int32 × Int32 × (Nat → Int32)) ⊕ (Int32 × (Nat → Int32))) :=
  some (.inl (n2, n3, n4 + 1, c_rest))
def f_X7_proofDay_L30_J124 (n1 : Int32) (n4 : Int32) (n5 : Int32) (n6 : Int32) (c_now_products : Int32) (c_now_shelves_places : Int32) (c_now_shelves_picked : Int64) (c_now_shelves_lot : Nat → Int32) (c_now_shelves_pieces : Nat → Int32) (c_now_shelves_mark : Nat → Int32) (c_now_shelves_byDistance : Nat → Int32) (c_now_lots_count : Int32) (c_now_lots_product : Nat → Int32) (c_now_lots_last : Nat → Int32) (c_now_lots_state : Nat → Int32) (c_now_lots_byLast : Nat → Int32) (c_now_orders_count : Int32) (c_now_orders_gifts : Int32) (c_now_orders_product : Nat → Int32) (c_now_orders_open : Nat → Int32) (c_now_orders_due : Nat → Int32) (c_now_orders_life : Nat → Int32) (c_now_orders_byDue : Nat → Int32) (c_now_orders_had : Nat → Int32) (c_now_orders_stamps : Nat → Int32) (c_rest : Nat → Int32) : Option ((Int32 × Int32 × Int32 × (Nat → Int32)) ⊕ (Int32 × (Nat → Int32))) :=
  f_X7_proofDay_L30_J130 n1 n5 n6 n4 c_now_products c_now_shelves_places c_now_shelves_picked c_now_shelves_lot c_now_shelves_pieces c_now_shelves_mark c_now_shelves_byDistance c_now_lots_count c_now_lots_product c_now_lots_last c_now_lots_state c_now_lots_byLast c_now_orders_count c_now_orders_gifts c_now_orders_product c_now_orders_open c_now_orders_due c_now_orders_life c_now_orders_byDue c_now_orders_had c_now_orders_stamps c_rest
def f_X7_proofDay_L30 (n1 : Int32) (c_now_products : Int32) (c_now_shelves_places : Int32) (c_now_shelves_picked : Int64) (c_now_shelves_lot : Nat → Int32) (c_now_shelves_pieces : Nat → Int32) (c_now_shelves_mark : Nat → Int32) (c_now_shelves_byDistance : Nat → Int32) (c_now_lots_count : Int32) (c_now_lots_product : Nat → Int32) (c_now_lots_last : Nat → Int32) (c_now_lots_state : Nat → Int32) (c_now_lots_byLast : Nat → Int32) (c_now_orders_count : Int32) (c_now_orders_gifts : Int32) (c_now_orders_product : Nat → Int32) (c_now_orders_open : Nat → Int32) (c_now_orders_due : Nat → Int32) (c_now_orders_life : Nat → Int32) (c_now_orders_byDue : Nat → Int32) (c_now_orders_had : Nat → Int32) (c_now_orders_stamps : Nat → Int32) (n2 : Int32) (n3 : Int32) (n4 : Int32) (c_rest : Nat → Int32) : Option ((Int32 × Int32 × Int32 × (Nat → Int32)) ⊕ (Int32 × (Nat → Int32))) :=
  (if c_now_orders_count ≤ n4 then some (.inr (n2, c_rest))
  else gd n4 40 ((if (c_now_orders_product n4.toNatClampNeg) = n1 then gd n4 40 ((if (c_now_orders_open n4.toNatClampNeg) ≤ 0 then f_X7_proofDay_L30_J130 n1 n2 n3 n4 c_now_products c_now_shelves_places c_now_shelves_picked c_now_shelves_lot c_now_shelves_pieces c_now_shelves_mark c_now_shelves_byDistance c_now_lots_count c_now_lots_product c_now_lots_last c_now_lots_state c_now_lots_byLast c_now_orders_count c_now_orders_gifts c_now_orders_product c_now_orders_open c_now_orders_due c_now_orders_life c_now_orders_byDue c_now_orders_had c_now_orders_stamps c_rest
  else bnd1 (f_X2_wantedDay n4 c_now_orders_count c_now_orders_due c_now_orders_life) (fun r21 =>
  (bnd2 (f_X7_lackAt n1 r21 c_now_shelves_places c_now_shelves_lot c_now_shelves_pieces c_now_lots_count c_now_lots_product c_now_lots_last c_now_lots_state c_now_orders_count c_now_orders_product c_now_orders_open c_now_orders_due c_now_orders_life c_rest) (fun r23 o25 =>
  ((if n2 = (-1) then f_X7_proofDay_L30_J124 n1 n4 r21 r23 c_now_products c_now_shelves_places c_now_shelves_picked c_now_shelves_lot c_now_shelves_pieces c_now_shelves_mark c_now_shelves_byDistance c_now_lots_count c_now_lots_product c_now_lots_last c_now_lots_state c_now_lots_byLast c_now_orders_count c_now_orders_gifts c_now_orders_product c_now_orders_open c_now_orders_due c_now_orders_life c_now_orders_byDue c_now_orders_had c_now_orders_stamps o25
  else (if n3 < r23 then f_X7_proofDay_L30_J124 n1 n4 r21 r23 c_now_products c_now_shelves_places c_now_shelves_picked c_now_shelves_lot c_now_shelves_pieces c_now_shelves_mark c_now_shelves_byDistance c_now_lots_count c_now_lots_product c_now_lots_last c_now_lots_state c_now_lots_byLast c_now_orders_count c_now_orders_gifts c_now_orders_product c_now_orders_open c_now_orders_due c_now_orders_life c_now_orders_byDue c_now_orders_had c_now_orders_stamps o25
  else (if r23 = n3 then (if n2 ≤ r21 then f_X7_proofDay_L30_J130 n1 n2 n3 n4 c_now_products c_now_shelves_places c_now_shelves_picked c_now_shelves_lot c_now_shelves_pieces c_now_shelves_mark c_now_shelves_byDistance c_now_lots_count c_now_lots_product c_now_lots_last c_now_lots_state c_now_lots_byLast c_now_orders_count c_now_orders_gifts c_now_orders_product c_now_orders_open c_now_orders_due c_now_orders_life c_now_orders_byDue c_now_orders_had c_now_orders_stamps o25
  else f_X7_proofDay_L30_J124 n1 n4 r21 r23 c_now_products c_now_shelves_places c_now_shelves_picked c_now_shelves_lot c_now_shelves_pieces c_now_shelves_mark c_now_shelves_byDistance c_now_lots_count c_now_lots_product c_now_lots_last c_now_lots_state c_now_lots_byLast c_now_orders_count c_now_orders_gifts c_now_orders_product c_now_orders_open c_now_orders_due c_now_orders_life c_now_orders_byDue c_now_orders_had c_now_orders_stamps o25)
  else f_X7_proofDay_L30_J130 n1 n2 n3 n4 c_now_products c_now_shelves_places c_now_shelves_picked c_now_shelves_lot c_now_shelves_pieces c_now_shelves_mark c_now_shelves_byDistance c_now_lots_count c_now_lots_product c_now_lots_last c_now_lots_state c_now_lots_byLast c_now_orders_count c_now_orders_gifts c_now_orders_product c_now_orders_open c_now_orders_due c_now_orders_life c_now_orders_byDue c_now_orders_had c_now_orders_stamps o25)))))))))
  else f_X7_proofDay_L30_J130 n1 n2 n3 n4 c_now_products c_now_shelves_places c_now_shelves_picked c_now_shelves_lot c_now_shelves_pieces c_now_shelves_mark c_now_shelves_byDistance c_now_lots_count c_now_lots_product c_now_lots_last c_now_lots_state c_now_lots_byLast c_now_orders_count c_now_orders_gifts c_now_orders_product c_now_orders_open c_now_orders_due c_now_orders_life c_now_orders_byDue c_now_orders_had c_now_orders_stamps c_rest)))
def f_X7_proofDay (v1 : Int32) (c_now_products : Int32) (c_now_shelves_places : Int32) (c_now_shelves_picked : Int64) (c_now_shelves_lot : Nat → Int32) (c_now_shelves_pieces : Nat → Int32) (c_now_shelves_mark : Nat → Int32) (c_now_shelves_byDistance : Nat → Int32) (c_now_lots_count : Int32) (c_now_lots_product : Nat → Int32) (c_now_lots_last : Nat → Int32) (c_now_lots_state : Nat → Int32) (c_now_lots_byLast : Nat → Int32) (c_now_orders_count : Int32) (c_now_orders_gifts : Int32) (c_now_orders_product : Nat → Int32) (c_now_orders_open : Nat → Int32) (c_now_orders_due : Nat → Int32) (c_now_orders_life : Nat → Int32) (c_now_orders_byDue : Nat → Int32) (c_now_orders_had : Nat → Int32) (c_now_orders_stamps : Nat → Int32) (c_rest : Nat → Int32) : Option ((Except String Int32) × Int64 × (Nat → Int32) × (Nat → Int32) × (Nat → Int32) × Int32 × (Nat → Int32) × (Nat → Int32) × (Nat → Int32) × (Nat → Int32)) :=
  bnd1 (f_X7_needProduct v1 c_now_products) (fun r1 => mx r1 (fun E3 => some (.error E3, c_now_shelves_picked, c_now_shelves_lot, c_now_shelves_pieces, c_now_shelves_mark, c_now_orders_gifts, c_now_orders_open, c_now_orders_had, c_now_orders_stamps, c_rest)) (fun _ =>
  (bnd10 (f_X7_leftOpen v1 c_now_shelves_places c_now_shelves_picked c_now_shelves_lot c_now_shelves_pieces c_now_shelves_mark c_now_shelves_byDistance c_now_lots_count c_now_lots_product c_now_lots_last c_now_lots_state c_now_lots_byLast c_now_orders_count c_now_orders_gifts c_now_orders_product c_now_orders_open c_now_orders_due c_now_orders_life c_now_orders_byDue c_now_orders_had c_now_orders_stamps c_rest) (fun r4 o6 o7 o8 o9 o10 o11 o12 o13 o14 =>
  ((if r4 = 0 then some (.error "java/util/NoSuchElementException", o6, o7, o8, o9, o10, o11, o12, o13, o14)
  else (bnd2 (loop (fun z => f_X7_proofDay_L30 v1 c_now_products c_now_shelves_places o6 o7 o8 o9 c_now_shelves_byDistance c_now_lots_count c_now_lots_product c_now_lots_last c_now_lots_state c_now_lots_byLast c_now_orders_count o10 c_now_orders_product o11 c_now_orders_due c_now_orders_life c_now_orders_byDue o12 o13 z.1 z.2.1 z.2.2.1 z.2.2.2) fu ((-1), 0, 0, o14)) fun m31 c32 =>
  some (.ok m31, o6, o7, o8, o9, o10, o11, o12, o13, c32))))))))
set_option maxHeartbeats 4000000 in
set_option maxRecDepth 100000 in
theorem k_X7_proofDay (l : Launch) (hl0 : l.stackTraces = false) (D : va_G) (cI cJ cZ cS : ClassId) (B0 : Nat) (sz : Nat) (a0 a_now a_past a_plan a_picker a_rest a_packed a_now_items a_now_books a_now_terms a_now_shelves a_now_lots a_now_orders a_now_shelves_lot a_now_shelves_pieces a_now_shelves_mark a_now_shelves_byDistance a_now_lots_product a_now_lots_last a_now_lots_cost a_now_lots_state a_now_lots_byLast a_now_orders_customer a_now_orders_product a_now_orders_open a_now_orders_due a_now_orders_life a_now_orders_byDue a_now_orders_had a_now_orders_stamps : Nat) (c_acts : Int32) (c_nextSlot : Int32) (c_now_today : Int32) (c_now_products : Int32) (c_now_itemCount : Int32) (c_now_shelves_lanes : Int32) (c_now_shelves_positions : Int32) (c_now_shelves_room : Int32) (c_now_shelves_gap : Int32) (c_now_shelves_places : Int32) (c_now_shelves_picked : Int64) (c_now_shelves_lot : Nat → Int32) (c_now_shelves_pieces : Nat → Int32) (c_now_shelves_mark : Nat → Int32) (c_now_shelves_byDistance : Nat → Int32) (c_now_lots_count : Int32) (c_now_lots_product : Nat → Int32) (c_now_lots_last : Nat → Int32) (c_now_lots_state : Nat → Int32) (c_now_lots_byLast : Nat → Int32) (c_now_orders_count : Int32) (c_now_orders_gifts : Int32) (c_now_orders_product : Nat → Int32) (c_now_orders_open : Nat → Int32) (c_now_orders_due : Nat → Int32) (c_now_orders_life : Nat → Int32) (c_now_orders_byDue : Nat → Int32) (c_now_orders_had : Nat → Int32) (c_now_orders_stamps : Nat → Int32) (c_rest : Nat → Int32) (v1 : Int32) (r9 : Except String Int32) (oc_now_shelves_picked : Int64) (oc_now_shelves_lot : Nat → Int32) (oc_now_shelves_pieces : Nat → Int32) (oc_now_shelves_mark : Nat → Int32) (oc_now_orders_gifts : Int32) (oc_now_orders_open : Nat → Int32) (oc_now_orders_had : Nat → Int32) (oc_now_orders_stamps : Nat → Int32) (oc_rest : Nat → Int32)  (hf : f_X7_proofDay v1 c_now_products c_now_shelves_places c_now_shelves_picked c_now_shelves_lot c_now_shelves_pieces c_now_shelves_mark c_now_shelves_byDistance c_now_lots_count c_now_lots_product c_now_lots_last c_now_lots_state c_now_lots_byLast c_now_orders_count c_now_orders_gifts c_now_orders_product c_now_orders_open c_now_orders_due c_now_orders_life c_now_orders_byDue c_now_orders_had c_now_orders_stamps c_rest = some (r9, oc_now_shelves_picked, oc_now_shelves_lot, oc_now_shelves_pieces, oc_now_shelves_mark, oc_now_orders_gifts, oc_now_orders_open, oc_now_orders_had, oc_now_orders_stamps, oc_rest)) : vx_Met l yX7_proofDay (wz yX7_proofDay cX7_proofDay 7 (some .int)) ({ frames := 7, cells := 1, slots := 6, locals := 122 }) (va_Pc [.ref a0, .int v1] (wp D cI cJ cZ cS B0 [oX7 a0 a_now a_past c_acts c_nextSlot a_plan a_picker a_rest a_packed, oX6 a_now c_now_today c_now_products c_now_itemCount a_now_items a_now_books a_now_terms a_now_shelves a_now_lots a_now_orders, oX5 a_now_shelves c_now_shelves_lanes c_now_shelves_positions c_now_shelves_room c_now_shelves_gap c_now_shelves_places c_now_shelves_picked a_now_shelves_lot a_now_shelves_pieces a_now_shelves_mark a_now_shelves_byDistance, rI cI a_now_shelves_lot 48 c_now_shelves_lot, rI cI a_now_shelves_pieces 48 c_now_shelves_pieces, rI cI a_now_shelves_mark 48 c_now_shelves_mark, rI cI a_now_shelves_byDistance 48 c_now_shelves_byDistance, oX1 a_now_lots c_now_lots_count a_now_lots_product a_now_lots_last a_now_lots_cost a_now_lots_state a_now_lots_byLast, rI cI a_now_lots_product 24 c_now_lots_product, rI cI a_now_lots_last 24 c_now_lots_last, rI cI a_now_lots_state 24 c_now_lots_state, rI cI a_now_lots_byLast 24 c_now_lots_byLast, oX2 a_now_orders c_now_orders_count c_now_orders_gifts a_now_orders_customer a_now_orders_product a_now_orders_open a_now_orders_due a_now_orders_life a_now_orders_byDue a_now_orders_had a_now_orders_stamps, rI cI a_now_orders_product 40 c_now_orders_product, rI cI a_now_orders_open 40 c_now_orders_open, rI cI a_now_orders_due 40 c_now_orders_due, rI cI a_now_orders_life 40 c_now_orders_life, rI cI a_now_orders_byDue 40 c_now_orders_byDue, rI cI a_now_orders_had 960 c_now_orders_had, rI cI a_now_orders_stamps 960 c_now_orders_stamps, rI cI a_rest 24 c_rest] sz)) (va_Qi (fun (r2 : Int32) (_ : Unit) => r9 = .ok r2) (fun _ t => va_P D vwCl [oX7 a0 a_now a_past c_acts c_nextSlot a_plan a_picker a_rest a_packed, oX6 a_now c_now_today c_now_products c_now_itemCount a_now_items a_now_books a_now_terms a_now_shelves a_now_lots a_now_orders, oX5 a_now_shelves c_now_shelves_lanes c_now_shelves_positions c_now_shelves_room c_now_shelves_gap c_now_shelves_places oc_now_shelves_picked a_now_shelves_lot a_now_shelves_pieces a_now_shelves_mark a_now_shelves_byDistance, rI cI a_now_shelves_lot 48 oc_now_shelves_lot, rI cI a_now_shelves_pieces 48 oc_now_shelves_pieces, rI cI a_now_shelves_mark 48 oc_now_shelves_mark, rI cI a_now_shelves_byDistance 48 c_now_shelves_byDistance, oX1 a_now_lots c_now_lots_count a_now_lots_product a_now_lots_last a_now_lots_cost a_now_lots_state a_now_lots_byLast, rI cI a_now_lots_product 24 c_now_lots_product, rI cI a_now_lots_last 24 c_now_lots_last, rI cI a_now_lots_state 24 c_now_lots_state, rI cI a_now_lots_byLast 24 c_now_lots_byLast, oX2 a_now_orders c_now_orders_count oc_now_orders_gifts a_now_orders_customer a_now_orders_product a_now_orders_open a_now_orders_due a_now_orders_life a_now_orders_byDue a_now_orders_had a_now_orders_stamps, rI cI a_now_orders_product 40 c_now_orders_product, rI cI a_now_orders_open 40 oc_now_orders_open, rI cI a_now_orders_due 40 c_now_orders_due, rI cI a_now_orders_life 40 c_now_orders_life, rI cI a_now_orders_byDue 40 c_now_orders_byDue, rI cI a_now_orders_had 960 oc_now_orders_had, rI cI a_now_orders_stamps 960 oc_now_orders_stamps, rI cI a_rest 24 oc_rest] t.heap) (va_A [oX7 a0 a_now a_past c_acts c_nextSlot a_plan a_picker a_rest a_packed, oX6 a_now c_now_today c_now_products c_now_itemCount a_now_items a_now_books a_now_terms a_now_shelves a_now_lots a_now_orders, oX5 a_now_shelves c_now_shelves_lanes c_now_shelves_positions c_now_shelves_room c_now_shelves_gap c_now_shelves_places c_now_shelves_picked a_now_shelves_lot a_now_shelves_pieces a_now_shelves_mark a_now_shelves_byDistance, rI cI a_now_shelves_lot 48 c_now_shelves_lot, rI cI a_now_shelves_pieces 48 c_now_shelves_pieces, rI cI a_now_shelves_mark 48 c_now_shelves_mark, rI cI a_now_shelves_byDistance 48 c_now_shelves_byDistance, oX1 a_now_lots c_now_lots_count a_now_lots_product a_now_lots_last a_now_lots_cost a_now_lots_state a_now_lots_byLast, rI cI a_now_lots_product 24 c_now_lots_product, rI cI a_now_lots_last 24 c_now_lots_last, rI cI a_now_lots_state 24 c_now_lots_state, rI cI a_now_lots_byLast 24 c_now_lots_byLast, oX2 a_now_orders c_now_orders_count c_now_orders_gifts a_now_orders_customer a_now_orders_product a_now_orders_open a_now_orders_due a_now_orders_life a_now_orders_byDue a_now_orders_had a_now_orders_stamps, rI cI a_now_orders_product 40 c_now_orders_product, rI cI a_now_orders_open 40 c_now_orders_open, rI cI a_now_orders_due 40 c_now_orders_due, rI cI a_now_orders_life 40 c_now_orders_life, rI cI a_now_orders_byDue 40 c_now_orders_byDue, rI cI a_now_orders_had 960 c_now_orders_had, rI cI a_now_orders_stamps 960 c_now_orders_stamps, rI cI a_rest 24 c_rest] sz)) (vx_X (fun (_ : Unit) => True) (fun E _ t => r9 = .error E ∧ va_P D vwCl [oX7 a0 a_now a_past c_acts c_nextSlot a_plan a_picker a_rest a_packed, oX6 a_now c_now_today c_now_products c_now_itemCount a_now_items a_now_books a_now_terms a_now_shelves a_now_lots a_now_orders, oX5 a_now_shelves c_now_shelves_lanes c_now_shelves_positions c_now_shelves_room c_now_shelves_gap c_now_shelves_places oc_now_shelves_picked a_now_shelves_lot a_now_shelves_pieces a_now_shelves_mark a_now_shelves_byDistance, rI cI a_now_shelves_lot 48 oc_now_shelves_lot, rI cI a_now_shelves_pieces 48 oc_now_shelves_pieces, rI cI a_now_shelves_mark 48 oc_now_shelves_mark, rI cI a_now_shelves_byDistance 48 c_now_shelves_byDistance, oX1 a_now_lots c_now_lots_count a_now_lots_product a_now_lots_last a_now_lots_cost a_now_lots_state a_now_lots_byLast, rI cI a_now_lots_product 24 c_now_lots_product, rI cI a_now_lots_last 24 c_now_lots_last, rI cI a_now_lots_state 24 c_now_lots_state, rI cI a_now_lots_byLast 24 c_now_lots_byLast, oX2 a_now_orders c_now_orders_count oc_now_orders_gifts a_now_orders_customer a_now_orders_product a_now_orders_open a_now_orders_due a_now_orders_life a_now_orders_byDue a_now_orders_had a_now_orders_stamps, rI cI a_now_orders_product 40 c_now_orders_product, rI cI a_now_orders_open 40 oc_now_orders_open, rI cI a_now_orders_due 40 c_now_orders_due, rI cI a_now_orders_life 40 c_now_orders_life, rI cI a_now_orders_byDue 40 c_now_orders_byDue, rI cI a_now_orders_had 960 oc_now_orders_had, rI cI a_now_orders_stamps 960 oc_now_orders_stamps, rI cI a_rest 24 oc_rest] t.heap) (va_A [oX7 a0 a_now a_past c_acts c_nextSlot a_plan a_picker a_rest a_packed, oX6 a_now c_now_today c_now_products c_now_itemCount a_now_items a_now_books a_now_terms a_now_shelves a_now_lots a_now_orders, oX5 a_now_shelves c_now_shelves_lanes c_now_shelves_positions c_now_shelves_room c_now_shelves_gap c_now_shelves_places c_now_shelves_picked a_now_shelves_lot a_now_shelves_pieces a_now_shelves_mark a_now_shelves_byDistance, rI cI a_now_shelves_lot 48 c_now_shelves_lot, rI cI a_now_shelves_pieces 48 c_now_shelves_pieces, rI cI a_now_shelves_mark 48 c_now_shelves_mark, rI cI a_now_shelves_byDistance 48 c_now_shelves_byDistance, oX1 a_now_lots c_now_lots_count a_now_lots_product a_now_lots_last a_now_lots_cost a_now_lots_state a_now_lots_byLast, rI cI a_now_lots_product 24 c_now_lots_product, rI cI a_now_lots_last 24 c_now_lots_last, rI cI a_now_lots_state 24 c_now_lots_state, rI cI a_now_lots_byLast 24 c_now_lots_byLast, oX2 a_now_orders c_now_orders_count c_now_orders_gifts a_now_orders_customer a_now_orders_product a_now_orders_open a_now_orders_due a_now_orders_life a_now_orders_byDue a_now_orders_had a_now_orders_stamps, rI cI a_now_orders_product 40 c_now_orders_product, rI cI a_now_orders_open 40 c_now_orders_open, rI cI a_now_orders_due 40 c_now_orders_due, rI cI a_now_orders_life 40 c_now_orders_life, rI cI a_now_orders_byDue 40 c_now_orders_byDue, rI cI a_now_orders_had 960 c_now_orders_had, rI cI a_now_orders_stamps 960 c_now_orders_stamps, rI cI a_rest 24 c_rest] sz)) 1 6 (va_A [oX7 a0 a_now a_past c_acts c_nextSlot a_plan a_picker a_rest a_packed, oX6 a_now c_now_today c_now_products c_now_itemCount a_now_items a_now_books a_now_terms a_now_shelves a_now_lots a_now_orders, oX5 a_now_shelves c_now_shelves_lanes c_now_shelves_positions c_now_shelves_room c_now_shelves_gap c_now_shelves_places c_now_shelves_picked a_now_shelves_lot a_now_shelves_pieces a_now_shelves_mark a_now_shelves_byDistance, rI cI a_now_shelves_lot 48 c_now_shelves_lot, rI cI a_now_shelves_pieces 48 c_now_shelves_pieces, rI cI a_now_shelves_mark 48 c_now_shelves_mark, rI cI a_now_shelves_byDistance 48 c_now_shelves_byDistance, oX1 a_now_lots c_now_lots_count a_now_lots_product a_now_lots_last a_now_lots_cost a_now_lots_state a_now_lots_byLast, rI cI a_now_lots_product 24 c_now_lots_product, rI cI a_now_lots_last 24 c_now_lots_last, rI cI a_now_lots_state 24 c_now_lots_state, rI cI a_now_lots_byLast 24 c_now_lots_byLast, oX2 a_now_orders c_now_orders_count c_now_orders_gifts a_now_orders_customer a_now_orders_product a_now_orders_open a_now_orders_due a_now_orders_life a_now_orders_byDue a_now_orders_had a_now_orders_stamps, rI cI a_now_orders_product 40 c_now_orders_product, rI cI a_now_orders_open 40 c_now_orders_open, rI cI a_now_orders_due 40 c_now_orders_due, rI cI a_now_orders_life 40 c_now_orders_life, rI cI a_now_orders_byDue 40 c_now_orders_byDue, rI cI a_now_orders_had 960 c_now_orders_had, rI cI a_now_orders_stamps 960 c_now_orders_stamps, rI cI a_rest 24 c_rest] sz) := by
  refine vx_ofW (cc := cX7_proofDay) (maxL := 7) (ret := (some .int)) (by decide +kernel) rfl ?_
  intro p e s m args below meth c s₁ B hml hno hv
  obtain ⟨rfl, hsz, hP, hK, hD0, hB0, hE⟩ := hv
  subst hsz
  have hx := B.exec
  have hb := B.bytes
  have hr := B.returns
  have hts := atoms_spec (ws := (wz yX7_proofDay cX7_proofDay 7 (some .int))) B.pre
  have hown : s.vm.findClass RX7 = some m.cls := findClass_of_methodNamed B.named
  have hlocks := B.notSynchronized
  have hD := hD0.self (sz := s.heap.size)
  have hAB : ∀ q : Nat, va_A [oX7 a0 a_now a_past c_acts c_nextSlot a_plan a_picker a_rest a_packed, oX6 a_now c_now_today c_now_products c_now_itemCount a_now_items a_now_books a_now_terms a_now_shelves a_now_lots a_now_orders, oX5 a_now_shelves c_now_shelves_lanes c_now_shelves_positions c_now_shelves_room c_now_shelves_gap c_now_shelves_places c_now_shelves_picked a_now_shelves_lot a_now_shelves_pieces a_now_shelves_mark a_now_shelves_byDistance, rI cI a_now_shelves_lot 48 c_now_shelves_lot, rI cI a_now_shelves_pieces 48 c_now_shelves_pieces, rI cI a_now_shelves_mark 48 c_now_shelves_mark, rI cI a_now_shelves_byDistance 48 c_now_shelves_byDistance, oX1 a_now_lots c_now_lots_count a_now_lots_product a_now_lots_last a_now_lots_cost a_now_lots_state a_now_lots_byLast, rI cI a_now_lots_product 24 c_now_lots_product, rI cI a_now_lots_last 24 c_now_lots_last, rI cI a_now_lots_state 24 c_now_lots_state, rI cI a_now_lots_byLast 24 c_now_lots_byLast, oX2 a_now_orders c_now_orders_count c_now_orders_gifts a_now_orders_customer a_now_orders_product a_now_orders_open a_now_orders_due a_now_orders_life a_now_orders_byDue a_now_orders_had a_now_orders_stamps, rI cI a_now_orders_product 40 c_now_orders_product, rI cI a_now_orders_open 40 c_now_orders_open, rI cI a_now_orders_due 40 c_now_orders_due, rI cI a_now_orders_life 40 c_now_orders_life, rI cI a_now_orders_byDue 40 c_now_orders_byDue, rI cI a_now_orders_had 960 c_now_orders_had, rI cI a_now_orders_stamps 960 c_now_orders_stamps, rI cI a_rest 24 c_rest] s.heap.size q → B0 ≤ q := va_A_B hD0 hB0
  generalize hAe : va_A [oX7 a0 a_now a_past c_acts c_nextSlot a_plan a_picker a_rest a_packed, oX6 a_now c_now_today c_now_products c_now_itemCount a_now_items a_now_books a_now_terms a_now_shelves a_now_lots a_now_orders, oX5 a_now_shelves c_now_shelves_lanes c_now_shelves_positions c_now_shelves_room c_now_shelves_gap c_now_shelves_places c_now_shelves_picked a_now_shelves_lot a_now_shelves_pieces a_now_shelves_mark a_now_shelves_byDistance, rI cI a_now_shelves_lot 48 c_now_shelves_lot, rI cI a_now_shelves_pieces 48 c_now_shelves_pieces, rI cI a_now_shelves_mark 48 c_now_shelves_mark, rI cI a_now_shelves_byDistance 48 c_now_shelves_byDistance, oX1 a_now_lots c_now_lots_count a_now_lots_product a_now_lots_last a_now_lots_cost a_now_lots_state a_now_lots_byLast, rI cI a_now_lots_product 24 c_now_lots_product, rI cI a_now_lots_last 24 c_now_lots_last, rI cI a_now_lots_state 24 c_now_lots_state, rI cI a_now_lots_byLast 24 c_now_lots_byLast, oX2 a_now_orders c_now_orders_count c_now_orders_gifts a_now_orders_customer a_now_orders_product a_now_orders_open a_now_orders_due a_now_orders_life a_now_orders_byDue a_now_orders_had a_now_orders_stamps, rI cI a_now_orders_product 40 c_now_orders_product, rI cI a_now_orders_open 40 c_now_orders_open, rI cI a_now_orders_due 40 c_now_orders_due, rI cI a_now_orders_life 40 c_now_orders_life, rI cI a_now_orders_byDue 40 c_now_orders_byDue, rI cI a_now_orders_had 960 c_now_orders_had, rI cI a_now_orders_stamps 960 c_now_orders_stamps, rI cI a_rest 24 c_rest] s.heap.size = A at hD hAB ⊢
  have hA : ∀ q : Nat, s.heap.size ≤ q → A q := fun q h => by rw [← hAe]; exact Or.inr h
  have hFa := hA
  have hS : va_S A s.heap s.heap [] := va_S.rf
  have hBn := fun (H : Heap) (locs : List Loc) (h : va_S A s.heap H locs) => Nat.le_trans hB0 h.1
  have hEn := fun (H : Heap) (locs : List Loc) (h : va_S A s.heap H locs) => gE_now hE h hAB
  have hl := lv_entry ([.ref a0, .int v1]) (n := 7) (Nat.le_of_ble_eq_true rfl)
  rw [lg_entry_eq]
  generalize (lg_sl ([.ref a0, .int v1]) ++ List.replicate (7 - (lg_sl ([.ref a0, .int v1])).length) Slot.unset).toArray = ls at hl ⊢
  have hl : lv_has ls 7 [(0, .ref a0), (1, .int v1)] := hl
  obtain ⟨H, hHe⟩ : ∃ H : Heap, H = s.heap := ⟨_, rfl⟩
  have hP : va_P D vwCl [oX7 a0 a_now a_past c_acts c_nextSlot a_plan a_picker a_rest a_packed, oX6 a_now c_now_today c_now_products c_now_itemCount a_now_items a_now_books a_now_terms a_now_shelves a_now_lots a_now_orders, oX5 a_now_shelves c_now_shelves_lanes c_now_shelves_positions c_now_shelves_room c_now_shelves_gap c_now_shelves_places c_now_shelves_picked a_now_shelves_lot a_now_shelves_pieces a_now_shelves_mark a_now_shelves_byDistance, rI cI a_now_shelves_lot 48 c_now_shelves_lot, rI cI a_now_shelves_pieces 48 c_now_shelves_pieces, rI cI a_now_shelves_mark 48 c_now_shelves_mark, rI cI a_now_shelves_byDistance 48 c_now_shelves_byDistance, oX1 a_now_lots c_now_lots_count a_now_lots_product a_now_lots_last a_now_lots_cost a_now_lots_state a_now_lots_byLast, rI cI a_now_lots_product 24 c_now_lots_product, rI cI a_now_lots_last 24 c_now_lots_last, rI cI a_now_lots_state 24 c_now_lots_state, rI cI a_now_lots_byLast 24 c_now_lots_byLast, oX2 a_now_orders c_now_orders_count c_now_orders_gifts a_now_orders_customer a_now_orders_product a_now_orders_open a_now_orders_due a_now_orders_life a_now_orders_byDue a_now_orders_had a_now_orders_stamps, rI cI a_now_orders_product 40 c_now_orders_product, rI cI a_now_orders_open 40 c_now_orders_open, rI cI a_now_orders_due 40 c_now_orders_due, rI cI a_now_orders_life 40 c_now_orders_life, rI cI a_now_orders_byDue 40 c_now_orders_byDue, rI cI a_now_orders_had 960 c_now_orders_had, rI cI a_now_orders_stamps 960 c_now_orders_stamps, rI cI a_rest 24 c_rest] H := by rw [hHe]; exact hP
  have hS : va_S A s.heap H [] := by rw [hHe]; exact hS
  refine W_heq hHe ?_
  unfold f_X7_proofDay at hf
  refine gen_goW (fun WW hWW => ?_)
  have hL30 : ∀ (n : Nat) (n1 : Int32) (c_now_shelves_picked : Int64) (c_now_shelves_lot : Nat → Int32) (c_now_shelves_pieces : Nat → Int32) (c_now_shelves_mark : Nat → Int32) (c_now_orders_gifts : Int32) (c_now_orders_open : Nat → Int32) (c_now_orders_had : Nat → Int32) (c_now_orders_stamps : Nat → Int32) (n2 : Int32) (n3 : Int32) (n4 : Int32) (c_rest : Nat → Int32) (e2 : Int32) (e_c_rest : Nat → Int32), loop (fun z => f_X7_proofDay_L30 n1 c_now_products c_now_shelves_places c_now_shelves_picked c_now_shelves_lot c_now_shelves_pieces c_now_shelves_mark c_now_shelves_byDistance c_now_lots_count c_now_lots_product c_now_lots_last c_now_lots_state c_now_lots_byLast c_now_orders_count c_now_orders_gifts c_now_orders_product c_now_orders_open c_now_orders_due c_now_orders_life c_now_orders_byDue c_now_orders_had c_now_orders_stamps z.1 z.2.1 z.2.2.1 z.2.2.2) n (n2, n3, n4, c_rest) = some (e2, e_c_rest) → (∀ (H : Heap) (locs : List Loc) (ls : Array Slot), va_P D vwCl [oX7 a0 a_now a_past c_acts c_nextSlot a_plan a_picker a_rest a_packed, oX6 a_now c_now_today c_now_products c_now_itemCount a_now_items a_now_books a_now_terms a_now_shelves a_now_lots a_now_orders, oX5 a_now_shelves c_now_shelves_lanes c_now_shelves_positions c_now_shelves_room c_now_shelves_gap c_now_shelves_places c_now_shelves_picked a_now_shelves_lot a_now_shelves_pieces a_now_shelves_mark a_now_shelves_byDistance, rI cI a_now_shelves_lot 48 c_now_shelves_lot, rI cI a_now_shelves_pieces 48 c_now_shelves_pieces, rI cI a_now_shelves_mark 48 c_now_shelves_mark, rI cI a_now_shelves_byDistance 48 c_now_shelves_byDistance, oX1 a_now_lots c_now_lots_count a_now_lots_product a_now_lots_last a_now_lots_cost a_now_lots_state a_now_lots_byLast, rI cI a_now_lots_product 24 c_now_lots_product, rI cI a_now_lots_last 24 c_now_lots_last, rI cI a_now_lots_state 24 c_now_lots_state, rI cI a_now_lots_byLast 24 c_now_lots_byLast, oX2 a_now_orders c_now_orders_count c_now_orders_gifts a_now_orders_customer a_now_orders_product a_now_orders_open a_now_orders_due a_now_orders_life a_now_orders_byDue a_now_orders_had a_now_orders_stamps, rI cI a_now_orders_product 40 c_now_orders_product, rI cI a_now_orders_open 40 c_now_orders_open, rI cI a_now_orders_due 40 c_now_orders_due, rI cI a_now_orders_life 40 c_now_orders_life, rI cI a_now_orders_byDue 40 c_now_orders_byDue, rI cI a_now_orders_had 960 c_now_orders_had, rI cI a_now_orders_stamps 960 c_now_orders_stamps, rI cI a_rest 24 e_c_rest] H → va_D A [oX7 a0 a_now a_past c_acts c_nextSlot a_plan a_picker a_rest a_packed, oX6 a_now c_now_today c_now_products c_now_itemCount a_now_items a_now_books a_now_terms a_now_shelves a_now_lots a_now_orders, oX5 a_now_shelves c_now_shelves_lanes c_now_shelves_positions c_now_shelves_room c_now_shelves_gap c_now_shelves_places c_now_shelves_picked a_now_shelves_lot a_now_shelves_pieces a_now_shelves_mark a_now_shelves_byDistance, rI cI a_now_shelves_lot 48 c_now_shelves_lot, rI cI a_now_shelves_pieces 48 c_now_shelves_pieces, rI cI a_now_shelves_mark 48 c_now_shelves_mark, rI cI a_now_shelves_byDistance 48 c_now_shelves_byDistance, oX1 a_now_lots c_now_lots_count a_now_lots_product a_now_lots_last a_now_lots_cost a_now_lots_state a_now_lots_byLast, rI cI a_now_lots_product 24 c_now_lots_product, rI cI a_now_lots_last 24 c_now_lots_last, rI cI a_now_lots_state 24 c_now_lots_state, rI cI a_now_lots_byLast 24 c_now_lots_byLast, oX2 a_now_orders c_now_orders_count c_now_orders_gifts a_now_orders_customer a_now_orders_product a_now_orders_open a_now_orders_due a_now_orders_life a_now_orders_byDue a_now_orders_had a_now_orders_stamps, rI cI a_now_orders_product 40 c_now_orders_product, rI cI a_now_orders_open 40 c_now_orders_open, rI cI a_now_orders_due 40 c_now_orders_due, rI cI a_now_orders_life 40 c_now_orders_life, rI cI a_now_orders_byDue 40 c_now_orders_byDue, rI cI a_now_orders_had 960 c_now_orders_had, rI cI a_now_orders_stamps 960 c_now_orders_stamps, rI cI a_rest 24 e_c_rest] → va_S A s.heap H locs → lv_has ls 7 [(2, .int e2)] → WW H locs 0 0 (F0 m 136 ls [])) → ∀ (H : Heap) (locs : List Loc) (ls : Array Slot), va_P D vwCl [oX7 a0 a_now a_past c_acts c_nextSlot a_plan a_picker a_rest a_packed, oX6 a_now c_now_today c_now_products c_now_itemCount a_now_items a_now_books a_now_terms a_now_shelves a_now_lots a_now_orders, oX5 a_now_shelves c_now_shelves_lanes c_now_shelves_positions c_now_shelves_room c_now_shelves_gap c_now_shelves_places c_now_shelves_picked a_now_shelves_lot a_now_shelves_pieces a_now_shelves_mark a_now_shelves_byDistance, rI cI a_now_shelves_lot 48 c_now_shelves_lot, rI cI a_now_shelves_pieces 48 c_now_shelves_pieces, rI cI a_now_shelves_mark 48 c_now_shelves_mark, rI cI a_now_shelves_byDistance 48 c_now_shelves_byDistance, oX1 a_now_lots c_now_lots_count a_now_lots_product a_now_lots_last a_now_lots_cost a_now_lots_state a_now_lots_byLast, rI cI a_now_lots_product 24 c_now_lots_product, rI cI a_now_lots_last 24 c_now_lots_last, rI cI a_now_lots_state 24 c_now_lots_state, rI cI a_now_lots_byLast 24 c_now_lots_byLast, oX2 a_now_orders c_now_orders_count c_now_orders_gifts a_now_orders_customer a_now_orders_product a_now_orders_open a_now_orders_due a_now_orders_life a_now_orders_byDue a_now_orders_had a_now_orders_stamps, rI cI a_now_orders_product 40 c_now_orders_product, rI cI a_now_orders_open 40 c_now_orders_open, rI cI a_now_orders_due 40 c_now_orders_due, rI cI a_now_orders_life 40 c_now_orders_life, rI cI a_now_orders_byDue 40 c_now_orders_byDue, rI cI a_now_orders_had 960 c_now_orders_had, rI cI a_now_orders_stamps 960 c_now_orders_stamps, rI cI a_rest 24 c_rest] H → va_D A [oX7 a0 a_now a_past c_acts c_nextSlot a_plan a_picker a_rest a_packed, oX6 a_now c_now_today c_now_products c_now_itemCount a_now_items a_now_books a_now_terms a_now_shelves a_now_lots a_now_orders, oX5 a_now_shelves c_now_shelves_lanes c_now_shelves_positions c_now_shelves_room c_now_shelves_gap c_now_shelves_places c_now_shelves_picked a_now_shelves_lot a_now_shelves_pieces a_now_shelves_mark a_now_shelves_byDistance, rI cI a_now_shelves_lot 48 c_now_shelves_lot, rI cI a_now_shelves_pieces 48 c_now_shelves_pieces, rI cI a_now_shelves_mark 48 c_now_shelves_mark, rI cI a_now_shelves_byDistance 48 c_now_shelves_byDistance, oX1 a_now_lots c_now_lots_count a_now_lots_product a_now_lots_last a_now_lots_cost a_now_lots_state a_now_lots_byLast, rI cI a_now_lots_product 24 c_now_lots_product, rI cI a_now_lots_last 24 c_now_lots_last, rI cI a_now_lots_state 24 c_now_lots_state, rI cI a_now_lots_byLast 24 c_now_lots_byLast, oX2 a_now_orders c_now_orders_count c_now_orders_gifts a_now_orders_customer a_now_orders_product a_now_orders_open a_now_orders_due a_now_orders_life a_now_orders_byDue a_now_orders_had a_now_orders_stamps, rI cI a_now_orders_product 40 c_now_orders_product, rI cI a_now_orders_open 40 c_now_orders_open, rI cI a_now_orders_due 40 c_now_orders_due, rI cI a_now_orders_life 40 c_now_orders_life, rI cI a_now_orders_byDue 40 c_now_orders_byDue, rI cI a_now_orders_had 960 c_now_orders_had, rI cI a_now_orders_stamps 960 c_now_orders_stamps, rI cI a_rest 24 c_rest] → va_S A s.heap H locs → lv_has ls 7 [(0, .ref a0), (1, .int n1), (2, .int n2), (3, .int n3), (4, .int n4)] → WW H locs 0 0 (F0 m 30 ls []) := by
    intro n
    induction n with
    | zero =>
      intro n1 c_now_shelves_picked c_now_shelves_lot c_now_shelves_pieces c_now_shelves_mark c_now_orders_gifts c_now_orders_open c_now_orders_had c_now_orders_stamps n2 n3 n4 c_rest e2 e_c_rest hlp
      exact absurd hlp (by simp [loop])
    | succ n ih =>
      intro n1 c_now_shelves_picked c_now_shelves_lot c_now_shelves_pieces c_now_shelves_mark c_now_orders_gifts c_now_orders_open c_now_orders_had c_now_orders_stamps n2 n3 n4 c_rest e2 e_c_rest hlp K H locs ls hP hD hS hl
      obtain ⟨x9, hf, hlp⟩ := loop_s hlp
      have hf : f_X7_proofDay_L30 n1 c_now_products c_now_shelves_places c_now_shelves_picked c_now_shelves_lot c_now_shelves_pieces c_now_shelves_mark c_now_shelves_byDistance c_now_lots_count c_now_lots_product c_now_lots_last c_now_lots_state c_now_lots_byLast c_now_orders_count c_now_orders_gifts c_now_orders_product c_now_orders_open c_now_orders_due c_now_orders_life c_now_orders_byDue c_now_orders_had c_now_orders_stamps n2 n3 n4 c_rest = some x9 := hf
      unfold f_X7_proofDay_L30 at hf
      have hJ130 : ∀ (n2 : Int32) (n3 : Int32) (n4 : Int32) (c_rest : Nat → Int32), f_X7_proofDay_L30_J130 n1 n2 n3 n4 c_now_products c_now_shelves_places c_now_shelves_picked c_now_shelves_lot c_now_shelves_pieces c_now_shelves_mark c_now_shelves_byDistance c_now_lots_count c_now_lots_product c_now_lots_last c_now_lots_state c_now_lots_byLast c_now_orders_count c_now_orders_gifts c_now_orders_product c_now_orders_open c_now_orders_due c_now_orders_life c_now_orders_byDue c_now_orders_had c_now_orders_stamps c_rest = some x9 → ∀ (H : Heap) (locs : List Loc) (ls : Array Slot), va_P D vwCl [oX7 a0 a_now a_past c_acts c_nextSlot a_plan a_picker a_rest a_packed, oX6 a_now c_now_today c_now_products c_now_itemCount a_now_items a_now_books a_now_terms a_now_shelves a_now_lots a_now_orders, oX5 a_now_shelves c_now_shelves_lanes c_now_shelves_positions c_now_shelves_room c_now_shelves_gap c_now_shelves_places c_now_shelves_picked a_now_shelves_lot a_now_shelves_pieces a_now_shelves_mark a_now_shelves_byDistance, rI cI a_now_shelves_lot 48 c_now_shelves_lot, rI cI a_now_shelves_pieces 48 c_now_shelves_pieces, rI cI a_now_shelves_mark 48 c_now_shelves_mark, rI cI a_now_shelves_byDistance 48 c_now_shelves_byDistance, oX1 a_now_lots c_now_lots_count a_now_lots_product a_now_lots_last a_now_lots_cost a_now_lots_state a_now_lots_byLast, rI cI a_now_lots_product 24 c_now_lots_product, rI cI a_now_lots_last 24 c_now_lots_last, rI cI a_now_lots_state 24 c_now_lots_state, rI cI a_now_lots_byLast 24 c_now_lots_byLast, oX2 a_now_orders c_now_orders_count c_now_orders_gifts a_now_orders_customer a_now_orders_product a_now_orders_open a_now_orders_due a_now_orders_life a_now_orders_byDue a_now_orders_had a_now_orders_stamps, rI cI a_now_orders_product 40 c_now_orders_product, rI cI a_now_orders_open 40 c_now_orders_open, rI cI a_now_orders_due 40 c_now_orders_due, rI cI a_now_orders_life 40 c_now_orders_life, rI cI a_now_orders_byDue 40 c_now_orders_byDue, rI cI a_now_orders_had 960 c_now_orders_had, rI cI a_now_orders_stamps 960 c_now_orders_stamps, rI cI a_rest 24 c_rest] H → va_D A [oX7 a0 a_now a_past c_acts c_nextSlot a_plan a_picker a_rest a_packed, oX6 a_now c_now_today c_now_products c_now_itemCount a_now_items a_now_books a_now_terms a_now_shelves a_now_lots a_now_orders, oX5 a_now_shelves c_now_shelves_lanes c_now_shelves_positions c_now_shelves_room c_now_shelves_gap c_now_shelves_places c_now_shelves_picked a_now_shelves_lot a_now_shelves_pieces a_now_shelves_mark a_now_shelves_byDistance, rI cI a_now_shelves_lot 48 c_now_shelves_lot, rI cI a_now_shelves_pieces 48 c_now_shelves_pieces, rI cI a_now_shelves_mark 48 c_now_shelves_mark, rI cI a_now_shelves_byDistance 48 c_now_shelves_byDistance, oX1 a_now_lots c_now_lots_count a_now_lots_product a_now_lots_last a_now_lots_cost a_now_lots_state a_now_lots_byLast, rI cI a_now_lots_product 24 c_now_lots_product, rI cI a_now_lots_last 24 c_now_lots_last, rI cI a_now_lots_state 24 c_now_lots_state, rI cI a_now_lots_byLast 24 c_now_lots_byLast, oX2 a_now_orders c_now_orders_count c_now_orders_gifts a_now_orders_customer a_now_orders_product a_now_orders_open a_now_orders_due a_now_orders_life a_now_orders_byDue a_now_orders_had a_now_orders_stamps, rI cI a_now_orders_product 40 c_now_orders_product, rI cI a_now_orders_open 40 c_now_orders_open, rI cI a_now_orders_due 40 c_now_orders_due, rI cI a_now_orders_life 40 c_now_orders_life, rI cI a_now_orders_byDue 40 c_now_orders_byDue, rI cI a_now_orders_had 960 c_now_orders_had, rI cI a_now_orders_stamps 960 c_now_orders_stamps, rI cI a_rest 24 c_rest] → va_S A s.heap H locs → lv_has ls 7 [(0, .ref a0), (1, .int n1), (2, .int n2), (3, .int n3), (4, .int n4)] → WW H locs 0 0 (F0 m 130 ls []) := by
        intro n2 n3 n4 c_rest hf H locs ls hP hD hS hl
        unfold f_X7_proofDay_L30_J130 at hf
        refine (hWW _ _ _ _ _).mpr ?_
        refine lv_iinc (v := (n4 + 1)) (lv' := [(4, .int (n4 + 1)), (0, .ref a0), (1, .int n1), (2, .int n2), (3, .int n3)]) hx hb dX7_proofDay_130 hl (k := 4) rfl rfl (by decide) rfl (fun ls hl => ?_)
        refine lv_goto (tgt := 30) hx hb dX7_proofDay_133 (by decide) ?_
        obtain rfl := Option.some.inj hf
        exact (hWW _ _ _ _ _).mp (ih _ _ _ _ _ _ _ _ _ _ _ _ _ _ _ hlp K _ _ ls hP hD hS (lv_sub hl [1, 2, 3, 4, 0] rfl))
      have hJ124 : ∀ (n4 : Int32) (n5 : Int32) (n6 : Int32) (c_rest : Nat → Int32), f_X7_proofDay_L30_J124 n1 n4 n5 n6 c_now_products c_now_shelves_places c_now_shelves_picked c_now_shelves_lot c_now_shelves_pieces c_now_shelves_mark c_now_shelves_byDistance c_now_lots_count c_now_lots_product c_now_lots_last c_now_lots_state c_now_lots_byLast c_now_orders_count c_now_orders_gifts c_now_orders_product c_now_orders_open c_now_orders_due c_now_orders_life c_now_orders_byDue c_now_orders_had c_now_orders_stamps c_rest = some x9 → ∀ (H : Heap) (locs : List Loc) (ls : Array Slot), va_P D vwCl [oX7 a0 a_now a_past c_acts c_nextSlot a_plan a_picker a_rest a_packed, oX6 a_now c_now_today c_now_products c_now_itemCount a_now_items a_now_books a_now_terms a_now_shelves a_now_lots a_now_orders, oX5 a_now_shelves c_now_shelves_lanes c_now_shelves_positions c_now_shelves_room c_now_shelves_gap c_now_shelves_places c_now_shelves_picked a_now_shelves_lot a_now_shelves_pieces a_now_shelves_mark a_now_shelves_byDistance, rI cI a_now_shelves_lot 48 c_now_shelves_lot, rI cI a_now_shelves_pieces 48 c_now_shelves_pieces, rI cI a_now_shelves_mark 48 c_now_shelves_mark, rI cI a_now_shelves_byDistance 48 c_now_shelves_byDistance, oX1 a_now_lots c_now_lots_count a_now_lots_product a_now_lots_last a_now_lots_cost a_now_lots_state a_now_lots_byLast, rI cI a_now_lots_product 24 c_now_lots_product, rI cI a_now_lots_last 24 c_now_lots_last, rI cI a_now_lots_state 24 c_now_lots_state, rI cI a_now_lots_byLast 24 c_now_lots_byLast, oX2 a_now_orders c_now_orders_count c_now_orders_gifts a_now_orders_customer a_now_orders_product a_now_orders_open a_now_orders_due a_now_orders_life a_now_orders_byDue a_now_orders_had a_now_orders_stamps, rI cI a_now_orders_product 40 c_now_orders_product, rI cI a_now_orders_open 40 c_now_orders_open, rI cI a_now_orders_due 40 c_now_orders_due, rI cI a_now_orders_life 40 c_now_orders_life, rI cI a_now_orders_byDue 40 c_now_orders_byDue, rI cI a_now_orders_had 960 c_now_orders_had, rI cI a_now_orders_stamps 960 c_now_orders_stamps, rI cI a_rest 24 c_rest] H → va_D A [oX7 a0 a_now a_past c_acts c_nextSlot a_plan a_picker a_rest a_packed, oX6 a_now c_now_today c_now_products c_now_itemCount a_now_items a_now_books a_now_terms a_now_shelves a_now_lots a_now_orders, oX5 a_now_shelves c_now_shelves_lanes c_now_shelves_positions c_now_shelves_room c_now_shelves_gap c_now_shelves_places c_now_shelves_picked a_now_shelves_lot a_now_shelves_pieces a_now_shelves_mark a_now_shelves_byDistance, rI cI a_now_shelves_lot 48 c_now_shelves_lot, rI cI a_now_shelves_pieces 48 c_now_shelves_pieces, rI cI a_now_shelves_mark 48 c_now_shelves_mark, rI cI a_now_shelves_byDistance 48 c_now_shelves_byDistance, oX1 a_now_lots c_now_lots_count a_now_lots_product a_now_lots_last a_now_lots_cost a_now_lots_state a_now_lots_byLast, rI cI a_now_lots_product 24 c_now_lots_product, rI cI a_now_lots_last 24 c_now_lots_last, rI cI a_now_lots_state 24 c_now_lots_state, rI cI a_now_lots_byLast 24 c_now_lots_byLast, oX2 a_now_orders c_now_orders_count c_now_orders_gifts a_now_orders_customer a_now_orders_product a_now_orders_open a_now_orders_due a_now_orders_life a_now_orders_byDue a_now_orders_had a_now_orders_stamps, rI cI a_now_orders_product 40 c_now_orders_product, rI cI a_now_orders_open 40 c_now_orders_open, rI cI a_now_orders_due 40 c_now_orders_due, rI cI a_now_orders_life 40 c_now_orders_life, rI cI a_now_orders_byDue 40 c_now_orders_byDue, rI cI a_now_orders_had 960 c_now_orders_had, rI cI a_now_orders_stamps 960 c_now_orders_stamps, rI cI a_rest 24 c_rest] → va_S A s.heap H locs → lv_has ls 7 [(0, .ref a0), (1, .int n1), (4, .int n4), (5, .int n5), (6, .int n6)] → WW H locs 0 0 (F0 m 124 ls []) := by
        intro n4 n5 n6 c_rest hf H locs ls hP hD hS hl
        unfold f_X7_proofDay_L30_J124 at hf
        refine (hWW _ _ _ _ _).mpr ?_
        refine lv_iload hx hb dX7_proofDay_124 (lv_at hl 3 rfl) ?_
        refine lv_istore_n (lv' := [(2, .int n5), (0, .ref a0), (1, .int n1), (4, .int n4), (5, .int n5), (6, .int n6)]) hx hb dX7_proofDay_126 rfl hl (by decide) rfl (fun ls hl => ?_)
        refine lv_iload hx hb dX7_proofDay_127 (lv_at hl 5 rfl) ?_
        refine lv_istore_n (lv' := [(3, .int n6), (2, .int n5), (0, .ref a0), (1, .int n1), (4, .int n4), (5, .int n5), (6, .int n6)]) hx hb dX7_proofDay_129 rfl hl (by decide) rfl (fun ls hl => ?_)
        exact (hWW _ _ _ _ _).mp (hJ130 _ _ _ _ hf _ _ ls hP hD hS (lv_sub hl [2, 3, 1, 0, 4] rfl))
      refine (hWW _ _ _ _ _).mpr ?_
      refine lv_iload hx hb dX7_proofDay_30 (lv_at hl 4 rfl) ?_
      refine lv_aload_n hx hb dX7_proofDay_32 rfl (lv_at hl 0 rfl) ?_
      refine va_get (D := D) (ci := 6) (v := .ref a_now) (C := RX7) (T := TX7) (N := 8) hx hb hts (fun w h => mb (iX7 w h)) hown hK hP 0 rfl rfl 0 (by decide) (hts _ (mb tb_270)) (fun _ h9 => h9) rfl dX7_proofDay_33 ?_
      refine va_get (D := D) (ci := 5) (v := .ref a_now_orders) (C := RX6) (T := TX6) (N := 9) hx hb hts (fun w h => mb (iX6 w h)) hown hK hP 1 rfl rfl 8 (by decide) (hts _ (mb tb_173)) (fun _ h9 => h9) rfl dX7_proofDay_36 ?_
      refine va_get (D := D) (ci := 1) (v := .int c_now_orders_count) (C := RX2) (T := TX2) (N := 10) hx hb hts (fun w h => mb (iX2 w h)) hown hK hP 12 rfl rfl 0 (by decide) (hts _ (mb tb_120)) (fun _ h9 => h9) rfl dX7_proofDay_39 ?_
      refine lv_icmp_ge (tgt := 136) hx hb dX7_proofDay_42 (by decide) (fun h16 => ?_) (fun h16 => ?_)
      · have hf := ipos h16 hf
        obtain rfl := Option.some.inj hf
        cases lpx_r hlp
        exact (hWW _ _ _ _ _).mp (K _ _ ls hP hD hS (lv_sub hl [2] rfl))
      · have hf := ineg h16 hf
        refine lv_aload_n hx hb dX7_proofDay_45 rfl (lv_at hl 0 rfl) ?_
        refine va_get (D := D) (ci := 6) (v := .ref a_now) (C := RX7) (T := TX7) (N := 8) hx hb hts (fun w h => mb (iX7 w h)) hown hK hP 0 rfl rfl 0 (by decide) (hts _ (mb tb_270)) (fun _ h9 => h9) rfl dX7_proofDay_46 ?_
        refine va_get (D := D) (ci := 5) (v := .ref a_now_orders) (C := RX6) (T := TX6) (N := 9) hx hb hts (fun w h => mb (iX6 w h)) hown hK hP 1 rfl rfl 8 (by decide) (hts _ (mb tb_173)) (fun _ h9 => h9) rfl dX7_proofDay_49 ?_
        refine va_get (D := D) (ci := 1) (v := .ref a_now_orders_product) (C := RX2) (T := TX2) (N := 10) hx hb hts (fun w h => mb (iX2 w h)) hown hK hP 12 rfl rfl 3 (by decide) (hts _ (mb tb_125)) (fun _ h9 => h9) rfl dX7_proofDay_52 ?_
        refine lv_iload hx hb dX7_proofDay_55 (lv_at hl 4 rfl) ?_
        obtain ⟨h17, hf⟩ := ob_d hf
        refine va_iald hx hb hK hP 13 0 rfl rfl h17 dX7_proofDay_57 ?_
        refine lv_iload_n hx hb dX7_proofDay_58 rfl (lv_at hl 1 rfl) ?_
        refine lv_icmp_ne (tgt := 130) hx hb dX7_proofDay_59 (by decide) (fun h18 => ?_) (fun h18 => ?_)
        · have hf := ineg h18 hf
          exact (hWW _ _ _ _ _).mp (hJ130 _ _ _ _ hf _ _ ls hP hD hS (lv_sub hl [0, 1, 2, 3, 4] rfl))
        · have hf := ipos h18 hf
          refine lv_aload_n hx hb dX7_proofDay_62 rfl (lv_at hl 0 rfl) ?_
          refine va_get (D := D) (ci := 6) (v := .ref a_now) (C := RX7) (T := TX7) (N := 8) hx hb hts (fun w h => mb (iX7 w h)) hown hK hP 0 rfl rfl 0 (by decide) (hts _ (mb tb_270)) (fun _ h9 => h9) rfl dX7_proofDay_63 ?_
          refine va_get (D := D) (ci := 5) (v := .ref a_now_orders) (C := RX6) (T := TX6) (N := 9) hx hb hts (fun w h => mb (iX6 w h)) hown hK hP 1 rfl rfl 8 (by decide) (hts _ (mb tb_173)) (fun _ h9 => h9) rfl dX7_proofDay_66 ?_
          refine va_get (D := D) (ci := 1) (v := .ref a_now_orders_open) (C := RX2) (T := TX2) (N := 10) hx hb hts (fun w h => mb (iX2 w h)) hown hK hP 12 rfl rfl 4 (by decide) (hts _ (mb tb_127)) (fun _ h9 => h9) rfl dX7_proofDay_69 ?_
          refine lv_iload hx hb dX7_proofDay_72 (lv_at hl 4 rfl) ?_
          obtain ⟨h19, hf⟩ := ob_d hf
          refine va_iald hx hb hK hP 14 0 rfl rfl h19 dX7_proofDay_74 ?_
          refine lv_if_le (tgt := 130) hx hb dX7_proofDay_75 (by decide) (fun h20 => ?_) (fun h20 => ?_)
          · have hf := ipos h20 hf
            exact (hWW _ _ _ _ _).mp (hJ130 _ _ _ _ hf _ _ ls hP hD hS (lv_sub hl [0, 1, 2, 3, 4] rfl))
          · have hf := ineg h20 hf
            refine lv_aload_n hx hb dX7_proofDay_78 rfl (lv_at hl 0 rfl) ?_
            refine va_get (D := D) (ci := 6) (v := .ref a_now) (C := RX7) (T := TX7) (N := 8) hx hb hts (fun w h => mb (iX7 w h)) hown hK hP 0 rfl rfl 0 (by decide) (hts _ (mb tb_270)) (fun _ h9 => h9) rfl dX7_proofDay_79 ?_
            refine va_get (D := D) (ci := 5) (v := .ref a_now_orders) (C := RX6) (T := TX6) (N := 9) hx hb hts (fun w h => mb (iX6 w h)) hown hK hP 1 rfl rfl 8 (by decide) (hts _ (mb tb_173)) (fun _ h9 => h9) rfl dX7_proofDay_82 ?_
            refine lv_iload hx hb dX7_proofDay_85 (lv_at hl 4 rfl) ?_
            obtain ⟨r21, hc22, hf⟩ := ob1 hf
            refine ro_calli (r := r21) (va_runV (As := [.int n4]) (rest := []) ⟨hx, hb, hml, hown, hts⟩ (k_X2_wantedDay l hl0 D cI cJ cZ cS B0 H a_now_orders a_now_orders_customer a_now_orders_product a_now_orders_open a_now_orders_due a_now_orders_life a_now_orders_byDue a_now_orders_had a_now_orders_stamps c_now_orders_count c_now_orders_gifts c_now_orders_due c_now_orders_life n4 r21 hc22) (cwV 1 hts (gV tb_354 tb_355 tb_356 tb_5 tb_357) rfl rfl rfl (by decide +kernel) ⟨Nat.le_of_ble_eq_true rfl, Nat.le_of_ble_eq_true rfl⟩) ⟨rp_blind, va_recv hK hP (ci := 1) (q0 := 12) rfl rfl, rp_pre (hP.sub [12, 15, 16] rfl) hK (hBn _ _ hS) (hEn _ _ hS)⟩ rfl rfl hl.1 rfl (lv_room (Nat.le_of_ble_eq_true rfl)) dX7_proofDay_87 ⟨Nat.le_of_ble_eq_true rfl, Nat.le_of_ble_eq_true rfl⟩) ?_
            refine lv_istore (lv' := [(5, .int r21), (0, .ref a0), (1, .int n1), (2, .int n2), (3, .int n3), (4, .int n4)]) hx hb dX7_proofDay_90 hl (by decide) rfl (fun ls hl => ?_)
            refine lv_aload_n hx hb dX7_proofDay_92 rfl (lv_at hl 1 rfl) ?_
            refine lv_iload_n hx hb dX7_proofDay_93 rfl (lv_at hl 2 rfl) ?_
            refine lv_iload hx hb dX7_proofDay_94 (lv_at hl 0 rfl) ?_
            obtain ⟨r23, o25, hc24, hf⟩ := ob2 hf
            refine rw_calli (r := r23) (va_runV (As := [.int n1, .int r21]) (rest := []) ⟨hx, hb, hml, hown, hts⟩ (k_X7_lackAt l hl0 D cI cJ cZ cS B0 H.size a0 a_now a_past a_plan a_picker a_rest a_packed a_now_items a_now_books a_now_terms a_now_shelves a_now_lots a_now_orders a_now_shelves_lot a_now_shelves_pieces a_now_shelves_mark a_now_shelves_byDistance a_now_lots_product a_now_lots_last a_now_lots_cost a_now_lots_state a_now_lots_byLast a_now_orders_customer a_now_orders_product a_now_orders_open a_now_orders_due a_now_orders_life a_now_orders_byDue a_now_orders_had a_now_orders_stamps c_acts c_nextSlot c_now_today c_now_products c_now_itemCount c_now_shelves_lanes c_now_shelves_positions c_now_shelves_room c_now_shelves_gap c_now_shelves_places c_now_shelves_picked c_now_shelves_lot c_now_shelves_pieces c_now_lots_count c_now_lots_product c_now_lots_last c_now_lots_state c_now_orders_count c_now_orders_gifts c_now_orders_product c_now_orders_open c_now_orders_due c_now_orders_life c_rest n1 r21 r23 o25 hc24) (cwV 2 hts (gV tb_439 tb_441 ts_6 tb_1 tb_442) rfl rfl rfl (by decide +kernel) ⟨Nat.le_of_ble_eq_true rfl, Nat.le_of_ble_eq_true rfl⟩) ⟨wp_blind, va_recv hK hP (ci := 6) (q0 := 0) rfl rfl, wp_pre (hP.sub [0, 1, 2, 3, 4, 7, 8, 9, 10, 12, 13, 14, 15, 16, 20] rfl) hK (va_D.sub (hD.weaken (fun _ _ _ h9 => hAB _ h9)) [0, 1, 2, 3, 4, 7, 8, 9, 10, 12, 13, 14, 15, 16, 20] rfl rfl) (hBn _ _ hS) (hEn _ _ hS)⟩ rfl rfl hl.1 rfl (lv_room (Nat.le_of_ble_eq_true rfl)) dX7_proofDay_96 ⟨Nat.le_of_ble_eq_true rfl, Nat.le_of_ble_eq_true rfl⟩) hP hD hS hA [oX7 a0 a_now a_past c_acts c_nextSlot a_plan a_picker a_rest a_packed, oX6 a_now c_now_today c_now_products c_now_itemCount a_now_items a_now_books a_now_terms a_now_shelves a_now_lots a_now_orders, oX5 a_now_shelves c_now_shelves_lanes c_now_shelves_positions c_now_shelves_room c_now_shelves_gap c_now_shelves_places c_now_shelves_picked a_now_shelves_lot a_now_shelves_pieces a_now_shelves_mark a_now_shelves_byDistance, rI cI a_now_shelves_lot 48 c_now_shelves_lot, rI cI a_now_shelves_pieces 48 c_now_shelves_pieces, rI cI a_now_shelves_mark 48 c_now_shelves_mark, rI cI a_now_shelves_byDistance 48 c_now_shelves_byDistance, oX1 a_now_lots c_now_lots_count a_now_lots_product a_now_lots_last a_now_lots_cost a_now_lots_state a_now_lots_byLast, rI cI a_now_lots_product 24 c_now_lots_product, rI cI a_now_lots_last 24 c_now_lots_last, rI cI a_now_lots_state 24 c_now_lots_state, rI cI a_now_lots_byLast 24 c_now_lots_byLast, oX2 a_now_orders c_now_orders_count c_now_orders_gifts a_now_orders_customer a_now_orders_product a_now_orders_open a_now_orders_due a_now_orders_life a_now_orders_byDue a_now_orders_had a_now_orders_stamps, rI cI a_now_orders_product 40 c_now_orders_product, rI cI a_now_orders_open 40 c_now_orders_open, rI cI a_now_orders_due 40 c_now_orders_due, rI cI a_now_orders_life 40 c_now_orders_life, rI cI a_now_orders_byDue 40 c_now_orders_byDue, rI cI a_now_orders_had 960 c_now_orders_had, rI cI a_now_orders_stamps 960 c_now_orders_stamps, rI cI a_rest 24 o25] 21 [0, 1, 2, 3, 4, 7, 8, 9, 10, 12, 13, 14, 15, 16, 20] [5, 6, 11, 17, 18, 19] rfl rfl rfl rfl (by decide +kernel) rfl (fun H locs hP hD hS => ?_)
            refine lv_istore (lv' := [(6, .int r23), (5, .int r21), (0, .ref a0), (1, .int n1), (2, .int n2), (3, .int n3), (4, .int n4)]) hx hb dX7_proofDay_99 hl (by decide) rfl (fun ls hl => ?_)
            refine lv_iload_n hx hb dX7_proofDay_101 rfl (lv_at hl 4 rfl) ?_
            refine lv_iconst (v := (-1)) hx hb dX7_proofDay_102 (by decide) ?_
            refine lv_icmp_eq (tgt := 124) hx hb dX7_proofDay_103 (by decide) (fun h26 => ?_) (fun h26 => ?_)
            · have hf := ipos h26 hf
              exact (hWW _ _ _ _ _).mp (hJ124 _ _ _ _ hf _ _ ls hP hD hS (lv_sub hl [2, 3, 6, 1, 0] rfl))
            · have hf := ineg h26 hf
              refine lv_iload hx hb dX7_proofDay_106 (lv_at hl 0 rfl) ?_
              refine lv_iload_n hx hb dX7_proofDay_108 rfl (lv_at hl 5 rfl) ?_
              refine lv_icmp_gt (tgt := 124) hx hb dX7_proofDay_109 (by decide) (fun h27 => ?_) (fun h27 => ?_)
              · have hf := ipos h27 hf
                exact (hWW _ _ _ _ _).mp (hJ124 _ _ _ _ hf _ _ ls hP hD hS (lv_sub hl [2, 3, 6, 1, 0] rfl))
              · have hf := ineg h27 hf
                refine lv_iload hx hb dX7_proofDay_112 (lv_at hl 0 rfl) ?_
                refine lv_iload_n hx hb dX7_proofDay_114 rfl (lv_at hl 5 rfl) ?_
                refine lv_icmp_ne (tgt := 130) hx hb dX7_proofDay_115 (by decide) (fun h28 => ?_) (fun h28 => ?_)
                · have hf := ineg h28 hf
                  exact (hWW _ _ _ _ _).mp (hJ130 _ _ _ _ hf _ _ ls hP hD hS (lv_sub hl [2, 3, 4, 5, 6] rfl))
                · have hf := ipos h28 hf
                  refine lv_iload hx hb dX7_proofDay_118 (lv_at hl 1 rfl) ?_
                  refine lv_iload_n hx hb dX7_proofDay_120 rfl (lv_at hl 4 rfl) ?_
                  refine lv_icmp_ge (tgt := 130) hx hb dX7_proofDay_121 (by decide) (fun h29 => ?_) (fun h29 => ?_)
                  · have hf := ipos h29 hf
                    exact (hWW _ _ _ _ _).mp (hJ130 _ _ _ _ hf _ _ ls hP hD hS (lv_sub hl [2, 3, 4, 5, 6] rfl))
                  · have hf := ineg h29 hf
                    exact (hWW _ _ _ _ _).mp (hJ124 _ _ _ _ hf _ _ ls hP hD hS (lv_sub hl [2, 3, 6, 1, 0] rfl))
  refine (hWW _ _ _ _ _).mpr ?_
  refine lv_aload_n hx hb dX7_proofDay_0 rfl (lv_at hl 0 rfl) ?_
  refine lv_iload_n hx hb dX7_proofDay_1 rfl (lv_at hl 1 rfl) ?_
  obtain ⟨r1, hc2, hf⟩ := ob1 hf
  refine rx_callv (r9 := r1) (vx_runV (As := [.int v1]) (rest := []) ⟨hx, hb, hml, hown, hts⟩ (k_X7_needProduct l hl0 D cI cJ cZ cS B0 H a0 a_now a_past a_plan a_picker a_rest a_packed a_now_items a_now_books a_now_terms a_now_shelves a_now_lots a_now_orders c_acts c_nextSlot c_now_today c_now_products c_now_itemCount v1 r1 hc2) (cwV 1 hts (gV tb_647 tb_649 ts_12 tb_1 tb_650) rfl rfl rfl (by decide +kernel) ⟨Nat.le_of_ble_eq_true rfl, Nat.le_of_ble_eq_true rfl⟩) ⟨rp_blind, va_recv hK hP (ci := 6) (q0 := 0) rfl rfl, rp_pre (hP.sub [0, 1] rfl) hK (hBn _ _ hS) (hEn _ _ hS)⟩ rfl rfl hl.1 rfl (lv_room (Nat.le_of_ble_eq_true rfl)) dX7_proofDay_2 ⟨Nat.le_of_ble_eq_true rfl, Nat.le_of_ble_eq_true rfl⟩) hS hA (fun E3 ce q9 H1 locs1 hE9 hz9 hk9 hS hq9 hv9 hcl9 => ?_) (fun hr9 => ?_)
  · subst hE9
    have hf := mx_e hf
    cases hf
    exact vx_out (fun x hx => (hno x hx).elim) hlocks hq9 hv9 hcl9 (fun t ht hal => ⟨(), trivial, ⟨rfl, (by show va_P D vwCl _ t.heap; rw [ht]; exact va_Pk hP hk9)⟩, hS.F ht⟩) hS.2.2 (Nat.le_of_ble_eq_true rfl) (Nat.le_of_ble_eq_true rfl)
  · subst hr9
    have hf := mx_o hf
    refine lv_aload_n hx hb dX7_proofDay_5 rfl (lv_at hl 0 rfl) ?_
    refine lv_iload_n hx hb dX7_proofDay_6 rfl (lv_at hl 1 rfl) ?_
    obtain ⟨r4, o6, o7, o8, o9, o10, o11, o12, o13, o14, hc5, hf⟩ := ob10 hf
    refine rw_calli (r := r4) (va_runV (As := [.int v1]) (rest := []) ⟨hx, hb, hml, hown, hts⟩ (k_X7_leftOpen l hl0 D cI cJ cZ cS B0 H.size a0 a_now a_past a_plan a_picker a_rest a_packed a_now_items a_now_books a_now_terms a_now_shelves a_now_lots a_now_orders a_now_shelves_lot a_now_shelves_pieces a_now_shelves_mark a_now_shelves_byDistance a_now_lots_product a_now_lots_last a_now_lots_cost a_now_lots_state a_now_lots_byLast a_now_orders_customer a_now_orders_product a_now_orders_open a_now_orders_due a_now_orders_life a_now_orders_byDue a_now_orders_had a_now_orders_stamps c_acts c_nextSlot c_now_today c_now_products c_now_itemCount c_now_shelves_lanes c_now_shelves_positions c_now_shelves_room c_now_shelves_gap c_now_shelves_places c_now_shelves_picked c_now_shelves_lot c_now_shelves_pieces c_now_shelves_mark c_now_shelves_byDistance c_now_lots_count c_now_lots_product c_now_lots_last c_now_lots_state c_now_lots_byLast c_now_orders_count c_now_orders_gifts c_now_orders_product c_now_orders_open c_now_orders_due c_now_orders_life c_now_orders_byDue c_now_orders_had c_now_orders_stamps c_rest v1 r4 o6 o7 o8 o9 o10 o11 o12 o13 o14 hc5) (cwV 1 hts (gV tb_427 tb_429 ts_4 tb_1 tb_430) rfl rfl rfl (by decide +kernel) ⟨Nat.le_of_ble_eq_true rfl, Nat.le_of_ble_eq_true rfl⟩) ⟨wp_blind, va_recv hK hP (ci := 6) (q0 := 0) rfl rfl, wp_pre (hP.sub [0, 1, 2, 3, 4, 5, 6, 7, 8, 9, 10, 11, 12, 13, 14, 15, 16, 17, 18, 19, 20] rfl) hK (va_D.sub (hD.weaken (fun _ _ _ h9 => hAB _ h9)) [0, 1, 2, 3, 4, 5, 6, 7, 8, 9, 10, 11, 12, 13, 14, 15, 16, 17, 18, 19, 20] rfl rfl) (hBn _ _ hS) (hEn _ _ hS)⟩ rfl rfl hl.1 rfl (lv_room (Nat.le_of_ble_eq_true rfl)) dX7_proofDay_7 ⟨Nat.le_of_ble_eq_true rfl, Nat.le_of_ble_eq_true rfl⟩) hP hD hS hA [oX7 a0 a_now a_past c_acts c_nextSlot a_plan a_picker a_rest a_packed, oX6 a_now c_now_today c_now_products c_now_itemCount a_now_items a_now_books a_now_terms a_now_shelves a_now_lots a_now_orders, oX5 a_now_shelves c_now_shelves_lanes c_now_shelves_positions c_now_shelves_room c_now_shelves_gap c_now_shelves_places o6 a_now_shelves_lot a_now_shelves_pieces a_now_shelves_mark a_now_shelves_byDistance, rI cI a_now_shelves_lot 48 o7, rI cI a_now_shelves_pieces 48 o8, rI cI a_now_shelves_mark 48 o9, rI cI a_now_shelves_byDistance 48 c_now_shelves_byDistance, oX1 a_now_lots c_now_lots_count a_now_lots_product a_now_lots_last a_now_lots_cost a_now_lots_state a_now_lots_byLast, rI cI a_now_lots_product 24 c_now_lots_product, rI cI a_now_lots_last 24 c_now_lots_last, rI cI a_now_lots_state 24 c_now_lots_state, rI cI a_now_lots_byLast 24 c_now_lots_byLast, oX2 a_now_orders c_now_orders_count o10 a_now_orders_customer a_now_orders_product a_now_orders_open a_now_orders_due a_now_orders_life a_now_orders_byDue a_now_orders_had a_now_orders_stamps, rI cI a_now_orders_product 40 c_now_orders_product, rI cI a_now_orders_open 40 o11, rI cI a_now_orders_due 40 c_now_orders_due, rI cI a_now_orders_life 40 c_now_orders_life, rI cI a_now_orders_byDue 40 c_now_orders_byDue, rI cI a_now_orders_had 960 o12, rI cI a_now_orders_stamps 960 o13, rI cI a_rest 24 o14] 21 [0, 1, 2, 3, 4, 5, 6, 7, 8, 9, 10, 11, 12, 13, 14, 15, 16, 17, 18, 19, 20] [] rfl rfl rfl rfl (by decide +kernel) rfl (fun H locs hP hD hS => ?_)
    refine lv_if_ne (tgt := 23) hx hb dX7_proofDay_10 (by decide) (fun h15 => ?_) (fun h15 => ?_)
    · have hf := ineg h15 hf
      refine lv_iconst (v := (-1)) hx hb dX7_proofDay_23 (by decide) ?_
      refine lv_istore_n (lv' := [(2, .int (-1)), (0, .ref a0), (1, .int v1)]) hx hb dX7_proofDay_24 rfl hl (by decide) rfl (fun ls hl => ?_)
      refine lv_iconst (v := 0) hx hb dX7_proofDay_25 (by decide) ?_
      refine lv_istore_n (lv' := [(3, .int 0), (2, .int (-1)), (0, .ref a0), (1, .int v1)]) hx hb dX7_proofDay_26 rfl hl (by decide) rfl (fun ls hl => ?_)
      refine lv_iconst (v := 0) hx hb dX7_proofDay_27 (by decide) ?_
      refine lv_istore (lv' := [(4, .int 0), (3, .int 0), (2, .int (-1)), (0, .ref a0), (1, .int v1)]) hx hb dX7_proofDay_28 hl (by decide) rfl (fun ls hl => ?_)
      obtain ⟨m31, c32, hc30, hf⟩ := ob2 hf
      refine (hWW _ _ _ _ _).mp (hL30 fu _ _ _ _ _ _ _ _ _ _ _ _ _ _ _ hc30 (fun H locs ls hP hD hS hl => ?_) _ _ ls hP hD hS (lv_sub hl [3, 4, 2, 1, 0] rfl))
      · refine (hWW _ _ _ _ _).mpr ?_
        refine lv_iload_n hx hb dX7_proofDay_136 rfl (lv_at hl 0 rfl) ?_
        cases hf
        refine vx_ret ?_
        refine W.widen (k := 1) (n := 6) (Nat.le_of_ble_eq_true rfl) (Nat.le_of_ble_eq_true rfl) ?_
        exact W.iret hx hb hr (fun t ht hW => ⟨⟨_, (), rfl, rfl, (by show va_P D vwCl _ t.heap; rw [ht]; exact hP)⟩, hS.F ht⟩) hS.2.2 dX7_proofDay_137
    · have hf := ipos h15 hf
      cases hf
      exact thr_NS (is := 245) (text := "nothing would stay open") hx hb hl0 hown hts hE hAB (by decide) hS hl.1 dX7_proofDay_13 dX7_proofDay_16 dX7_proofDay_17 dX7_proofDay_19 dX7_proofDay_22 hml hno (Nat.le_of_ble_eq_true rfl) (Nat.le_of_ble_eq_true rfl) (Nat.le_of_ble_eq_true rfl) (Nat.le_of_ble_eq_true rfl) hlocks (fun t hal hz9 hk9 => ⟨(), trivial, ⟨rfl, va_Pk hP hk9⟩, va_S_F hS hz9 hk9⟩) hS.2.2 (Nat.le_of_ble_eq_true rfl) (Nat.le_of_ble_eq_true rfl)
def f_X7_difference (v1 : Int32) (v2 : Int32) (c_now_products : Int32) (c_now_shelves_places : Int32) (c_now_shelves_lot : Nat → Int32) (c_now_shelves_pieces : Nat → Int32) (c_now_lots_count : Int32) (c_now_lots_product : Nat → Int32) (c_now_lots_last : Nat → Int32) (c_now_lots_state : Nat → Int32) (c_now_orders_count : Int32) (c_now_orders_product : Nat → Int32) (c_now_orders_open : Nat → Int32) (c_now_orders_due : Nat → Int32) (c_now_orders_life : Nat → Int32) (c_rest : Nat → Int32) : Option ((Except String Int32) × (Nat → Int32)) :=
  bnd1 (f_X7_needProduct v1 c_now_products) (fun r1 => mx r1 (fun E3 => some (.error E3, c_rest)) (fun _ =>
  (bnd1 (f_X7_needRange v2 0 3000) (fun r4 => mx r4 (fun E6 => some (.error E6, c_rest)) (fun _ =>
  (bnd2 (f_X7_lackAt v1 v2 c_now_shelves_places c_now_shelves_lot c_now_shelves_pieces c_now_lots_count c_now_lots_product c_now_lots_last c_now_lots_state c_now_orders_count c_now_orders_product c_now_orders_open c_now_orders_due c_now_orders_life c_rest) (fun r7 o9 =>
  (some (.ok r7, o9)))))))))
set_option maxHeartbeats 4000000 in
set_option maxRecDepth 100000 in
theorem k_X7_difference (l : Launch) (hl0 : l.stackTraces = false) (D : va_G) (cI cJ cZ cS : ClassId) (B0 : Nat) (sz : Nat) (a0 a_now a_past a_plan a_picker a_rest a_packed a_now_items a_now_books a_now_terms a_now_shelves a_now_lots a_now_orders a_now_shelves_lot a_now_shelves_pieces a_now_shelves_mark a_now_shelves_byDistance a_now_lots_product a_now_lots_last a_now_lots_cost a_now_lots_state a_now_lots_byLast a_now_orders_customer a_now_orders_product a_now_orders_open a_now_orders_due a_now_orders_life a_now_orders_byDue a_now_orders_had a_now_orders_stamps : Nat) (c_acts : Int32) (c_nextSlot : Int32) (c_now_today : Int32) (c_now_products : Int32) (c_now_itemCount : Int32) (c_now_shelves_lanes : Int32) (c_now_shelves_positions : Int32) (c_now_shelves_room : Int32) (c_now_shelves_gap : Int32) (c_now_shelves_places : Int32) (c_now_shelves_picked : Int64) (c_now_shelves_lot : Nat → Int32) (c_now_shelves_pieces : Nat → Int32) (c_now_lots_count : Int32) (c_now_lots_product : Nat → Int32) (c_now_lots_last : Nat → Int32) (c_now_lots_state : Nat → Int32) (c_now_orders_count : Int32) (c_now_orders_gifts : Int32) (c_now_orders_product : Nat → Int32) (c_now_orders_open : Nat → Int32) (c_now_orders_due : Nat → Int32) (c_now_orders_life : Nat → Int32) (c_rest : Nat → Int32) (v1 : Int32) (v2 : Int32) (r9 : Except String Int32) (oc_rest : Nat → Int32)  (hf : f_X7_difference v1 v2 c_now_products c_now_shelves_places c_now_shelves_lot c_now_shelves_pieces c_now_lots_count c_now_lots_product c_now_lots_last c_now_lots_state c_now_orders_count c_now_orders_product c_now_orders_open c_now_orders_due c_now_orders_life c_rest = some (r9, oc_rest)) : vx_Met l yX7_difference (wz yX7_difference cX7_difference 3 (some .int)) ({ frames := 7, cells := 1, slots := 6, locals := 112 }) (va_Pc [.ref a0, .int v1, .int v2] (wp D cI cJ cZ cS B0 [oX7 a0 a_now a_past c_acts c_nextSlot a_plan a_picker a_rest a_packed, oX6 a_now c_now_today c_now_products c_now_itemCount a_now_items a_now_books a_now_terms a_now_shelves a_now_lots a_now_orders, oX5 a_now_shelves c_now_shelves_lanes c_now_shelves_positions c_now_shelves_room c_now_shelves_gap c_now_shelves_places c_now_shelves_picked a_now_shelves_lot a_now_shelves_pieces a_now_shelves_mark a_now_shelves_byDistance, rI cI a_now_shelves_lot 48 c_now_shelves_lot, rI cI a_now_shelves_pieces 48 c_now_shelves_pieces, oX1 a_now_lots c_now_lots_count a_now_lots_product a_now_lots_last a_now_lots_cost a_now_lots_state a_now_lots_byLast, rI cI a_now_lots_product 24 c_now_lots_product, rI cI a_now_lots_last 24 c_now_lots_last, rI cI a_now_lots_state 24 c_now_lots_state, oX2 a_now_orders c_now_orders_count c_now_orders_gifts a_now_orders_customer a_now_orders_product a_now_orders_open a_now_orders_due a_now_orders_life a_now_orders_byDue a_now_orders_had a_now_orders_stamps, rI cI a_now_orders_product 40 c_now_orders_product, rI cI a_now_orders_open 40 c_now_orders_open, rI cI a_now_orders_due 40 c_now_orders_due, rI cI a_now_orders_life 40 c_now_orders_life, rI cI a_rest 24 c_rest] sz)) (va_Qi (fun (r2 : Int32) (_ : Unit) => r9 = .ok r2) (fun _ t => va_P D vwCl [oX7 a0 a_now a_past c_acts c_nextSlot a_plan a_picker a_rest a_packed, oX6 a_now c_now_today c_now_products c_now_itemCount a_now_items a_now_books a_now_terms a_now_shelves a_now_lots a_now_orders, oX5 a_now_shelves c_now_shelves_lanes c_now_shelves_positions c_now_shelves_room c_now_shelves_gap c_now_shelves_places c_now_shelves_picked a_now_shelves_lot a_now_shelves_pieces a_now_shelves_mark a_now_shelves_byDistance, rI cI a_now_shelves_lot 48 c_now_shelves_lot, rI cI a_now_shelves_pieces 48 c_now_shelves_pieces, oX1 a_now_lots c_now_lots_count a_now_lots_product a_now_lots_last a_now_lots_cost a_now_lots_state a_now_lots_byLast, rI cI a_now_lots_product 24 c_now_lots_product, rI cI a_now_lots_last 24 c_now_lots_last, rI cI a_now_lots_state 24 c_now_lots_state, oX2 a_now_orders c_now_orders_count c_now_orders_gifts a_now_orders_customer a_now_orders_product a_now_orders_open a_now_orders_due a_now_orders_life a_now_orders_byDue a_now_orders_had a_now_orders_stamps, rI cI a_now_orders_product 40 c_now_orders_product, rI cI a_now_orders_open 40 c_now_orders_open, rI cI a_now_orders_due 40 c_now_orders_due, rI cI a_now_orders_life 40 c_now_orders_life, rI cI a_rest 24 oc_rest] t.heap) (va_A [oX7 a0 a_now a_past c_acts c_nextSlot a_plan a_picker a_rest a_packed, oX6 a_now c_now_today c_now_products c_now_itemCount a_now_items a_now_books a_now_terms a_now_shelves a_now_lots a_now_orders, oX5 a_now_shelves c_now_shelves_lanes c_now_shelves_positions c_now_shelves_room c_now_shelves_gap c_now_shelves_places c_now_shelves_picked a_now_shelves_lot a_now_shelves_pieces a_now_shelves_mark a_now_shelves_byDistance, rI cI a_now_shelves_lot 48 c_now_shelves_lot, rI cI a_now_shelves_pieces 48 c_now_shelves_pieces, oX1 a_now_lots c_now_lots_count a_now_lots_product a_now_lots_last a_now_lots_cost a_now_lots_state a_now_lots_byLast, rI cI a_now_lots_product 24 c_now_lots_product, rI cI a_now_lots_last 24 c_now_lots_last, rI cI a_now_lots_state 24 c_now_lots_state, oX2 a_now_orders c_now_orders_count c_now_orders_gifts a_now_orders_customer a_now_orders_product a_now_orders_open a_now_orders_due a_now_orders_life a_now_orders_byDue a_now_orders_had a_now_orders_stamps, rI cI a_now_orders_product 40 c_now_orders_product, rI cI a_now_orders_open 40 c_now_orders_open, rI cI a_now_orders_due 40 c_now_orders_due, rI cI a_now_orders_life 40 c_now_orders_life, rI cI a_rest 24 c_rest] sz)) (vx_X (fun (_ : Unit) => True) (fun E _ t => r9 = .error E ∧ va_P D vwCl [oX7 a0 a_now a_past c_acts c_nextSlot a_plan a_picker a_rest a_packed, oX6 a_now c_now_today c_now_products c_now_itemCount a_now_items a_now_books a_now_terms a_now_shelves a_now_lots a_now_orders, oX5 a_now_shelves c_now_shelves_lanes c_now_shelves_positions c_now_shelves_room c_now_shelves_gap c_now_shelves_places c_now_shelves_picked a_now_shelves_lot a_now_shelves_pieces a_now_shelves_mark a_now_shelves_byDistance, rI cI a_now_shelves_lot 48 c_now_shelves_lot, rI cI a_now_shelves_pieces 48 c_now_shelves_pieces, oX1 a_now_lots c_now_lots_count a_now_lots_product a_now_lots_last a_now_lots_cost a_now_lots_state a_now_lots_byLast, rI cI a_now_lots_product 24 c_now_lots_product, rI cI a_now_lots_last 24 c_now_lots_last, rI cI a_now_lots_state 24 c_now_lots_state, oX2 a_now_orders c_now_orders_count c_now_orders_gifts a_now_orders_customer a_now_orders_product a_now_orders_open a_now_orders_due a_now_orders_life a_now_orders_byDue a_now_orders_had a_now_orders_stamps, rI cI a_now_orders_product 40 c_now_orders_product, rI cI a_now_orders_open 40 c_now_orders_open, rI cI a_now_orders_due 40 c_now_orders_due, rI cI a_now_orders_life 40 c_now_orders_life, rI cI a_rest 24 oc_rest] t.heap) (va_A [oX7 a0 a_now a_past c_acts c_nextSlot a_plan a_picker a_rest a_packed, oX6 a_now c_now_today c_now_products c_now_itemCount a_now_items a_now_books a_now_terms a_now_shelves a_now_lots a_now_orders, oX5 a_now_shelves c_now_shelves_lanes c_now_shelves_positions c_now_shelves_room c_now_shelves_gap c_now_shelves_places c_now_shelves_picked a_now_shelves_lot a_now_shelves_pieces a_now_shelves_mark a_now_shelves_byDistance, rI cI a_now_shelves_lot 48 c_now_shelves_lot, rI cI a_now_shelves_pieces 48 c_now_shelves_pieces, oX1 a_now_lots c_now_lots_count a_now_lots_product a_now_lots_last a_now_lots_cost a_now_lots_state a_now_lots_byLast, rI cI a_now_lots_product 24 c_now_lots_product, rI cI a_now_lots_last 24 c_now_lots_last, rI cI a_now_lots_state 24 c_now_lots_state, oX2 a_now_orders c_now_orders_count c_now_orders_gifts a_now_orders_customer a_now_orders_product a_now_orders_open a_now_orders_due a_now_orders_life a_now_orders_byDue a_now_orders_had a_now_orders_stamps, rI cI a_now_orders_product 40 c_now_orders_product, rI cI a_now_orders_open 40 c_now_orders_open, rI cI a_now_orders_due 40 c_now_orders_due, rI cI a_now_orders_life 40 c_now_orders_life, rI cI a_rest 24 c_rest] sz)) 1 6 (va_A [oX7 a0 a_now a_past c_acts c_nextSlot a_plan a_picker a_rest a_packed, oX6 a_now c_now_today c_now_products c_now_itemCount a_now_items a_now_books a_now_terms a_now_shelves a_now_lots a_now_orders, oX5 a_now_shelves c_now_shelves_lanes c_now_shelves_positions c_now_shelves_room c_now_shelves_gap c_now_shelves_places c_now_shelves_picked a_now_shelves_lot a_now_shelves_pieces a_now_shelves_mark a_now_shelves_byDistance, rI cI a_now_shelves_lot 48 c_now_shelves_lot, rI cI a_now_shelves_pieces 48 c_now_shelves_pieces, oX1 a_now_lots c_now_lots_count a_now_lots_product a_now_lots_last a_now_lots_cost a_now_lots_state a_now_lots_byLast, rI cI a_now_lots_product 24 c_now_lots_product, rI cI a_now_lots_last 24 c_now_lots_last, rI cI a_now_lots_state 24 c_now_lots_state, oX2 a_now_orders c_now_orders_count c_now_orders_gifts a_now_orders_customer a_now_orders_product a_now_orders_open a_now_orders_due a_now_orders_life a_now_orders_byDue a_now_orders_had a_now_orders_stamps, rI cI a_now_orders_product 40 c_now_orders_product, rI cI a_now_orders_open 40 c_now_orders_open, rI cI a_now_orders_due 40 c_now_orders_due, rI cI a_now_orders_life 40 c_now_orders_life, rI cI a_rest 24 c_rest] sz) := by
  refine vx_ofW (cc := cX7_difference) (maxL := 3) (ret := (some .int)) (by decide +kernel) rfl ?_
  intro p e s m args below meth c s₁ B hml hno hv
  obtain ⟨rfl, hsz, hP, hK, hD0, hB0, hE⟩ := hv
  subst hsz
  have hx := B.exec
  have hb := B.bytes
  have hr := B.returns
  have hts := atoms_spec (ws := (wz yX7_difference cX7_difference 3 (some .int))) B.pre
  have hown : s.vm.findClass RX7 = some m.cls := findClass_of_methodNamed B.named
  have hlocks := B.notSynchronized
  have hD := hD0.self (sz := s.heap.size)
  have hAB : ∀ q : Nat, va_A [oX7 a0 a_now a_past c_acts c_nextSlot a_plan a_picker a_rest a_packed, oX6 a_now c_now_today c_now_products c_now_itemCount a_now_items a_now_books a_now_terms a_now_shelves a_now_lots a_now_orders, oX5 a_now_shelves c_now_shelves_lanes c_now_shelves_positions c_now_shelves_room c_now_shelves_gap c_now_shelves_places c_now_shelves_picked a_now_shelves_lot a_now_shelves_pieces a_now_shelves_mark a_now_shelves_byDistance, rI cI a_now_shelves_lot 48 c_now_shelves_lot, rI cI a_now_shelves_pieces 48 c_now_shelves_pieces, oX1 a_now_lots c_now_lots_count a_now_lots_product a_now_lots_last a_now_lots_cost a_now_lots_state a_now_lots_byLast, rI cI a_now_lots_product 24 c_now_lots_product, rI cI a_now_lots_last 24 c_now_lots_last, rI cI a_now_lots_state 24 c_now_lots_state, oX2 a_now_orders c_now_orders_count c_now_orders_gifts a_now_orders_customer a_now_orders_product a_now_orders_open a_now_orders_due a_now_orders_life a_now_orders_byDue a_now_orders_had a_now_orders_stamps, rI cI a_now_orders_product 40 c_now_orders_product, rI cI a_now_orders_open 40 c_now_orders_open, rI cI a_now_orders_due 40 c_now_orders_due, rI cI a_now_orders_life 40 c_now_orders_life, rI cI a_rest 24 c_rest] s.heap.size q → B0 ≤ q := va_A_B hD0 hB0
  generalize hAe : va_A [oX7 a0 a_now a_past c_acts c_nextSlot a_plan a_picker a_rest a_packed, oX6 a_now c_now_today c_now_products c_now_itemCount a_now_items a_now_books a_now_terms a_now_shelves a_now_lots a_now_orders, oX5 a_now_shelves c_now_shelves_lanes c_now_shelves_positions c_now_shelves_room c_now_shelves_gap c_now_shelves_places c_now_shelves_picked a_now_shelves_lot a_now_shelves_pieces a_now_shelves_mark a_now_shelves_byDistance, rI cI a_now_shelves_lot 48 c_now_shelves_lot, rI cI a_now_shelves_pieces 48 c_now_shelves_pieces, oX1 a_now_lots c_now_lots_count a_now_lots_product a_now_lots_last a_now_lots_cost a_now_lots_state a_now_lots_byLast, rI cI a_now_lots_product 24 c_now_lots_product, rI cI a_now_lots_last 24 c_now_lots_last, rI cI a_now_lots_state 24 c_now_lots_state, oX2 a_now_orders c_now_orders_count c_now_orders_gifts a_now_orders_customer a_now_orders_product a_now_orders_open a_now_orders_due a_now_orders_life a_now_orders_byDue a_now_orders_had a_now_orders_stamps, rI cI a_now_orders_product 40 c_now_orders_product, rI cI a_now_orders_open 40 c_now_orders_open, rI cI a_now_orders_due 40 c_now_orders_due, rI cI a_now_orders_life 40 c_now_orders_life, rI cI a_rest 24 c_rest] s.heap.size = A at hD hAB ⊢
  have hA : ∀ q : Nat, s.heap.size ≤ q → A q := fun q h => by rw [← hAe]; exact Or.inr h
  have hFa := hA
  have hS : va_S A s.heap s.heap [] := va_S.rf
  have hBn := fun (H : Heap) (locs : List Loc) (h : va_S A s.heap H locs) => Nat.le_trans hB0 h.1
  have hEn := fun (H : Heap) (locs : List Loc) (h : va_S A s.heap H locs) => gE_now hE h hAB
  have hl := lv_entry ([.ref a0, .int v1, .int v2]) (n := 3) (Nat.le_of_ble_eq_true rfl)
  rw [lg_entry_eq]
  generalize (lg_sl ([.ref a0, .int v1, .int v2]) ++ List.replicate (3 - (lg_sl ([.ref a0, .int v1, .int v2])).length) Slot.unset).toArray = ls at hl ⊢
  have hl : lv_has ls 3 [(0, .ref a0), (1, .int v1), (2, .int v2)] := hl
  obtain ⟨H, hHe⟩ : ∃ H : Heap, H = s.heap := ⟨_, rfl⟩
  have hP : va_P D vwCl [oX7 a0 a_now a_past c_acts c_nextSlot a_plan a_picker a_rest a_packed, oX6 a_now c_now_today c_now_products c_now_itemCount a_now_items a_now_books a_now_terms a_now_shelves a_now_lots a_now_orders, oX5 a_now_shelves c_now_shelves_lanes c_now_shelves_positions c_now_shelves_room c_now_shelves_gap c_now_shelves_places c_now_shelves_picked a_now_shelves_lot a_now_shelves_pieces a_now_shelves_mark a_now_shelves_byDistance, rI cI a_now_shelves_lot 48 c_now_shelves_lot, rI cI a_now_shelves_pieces 48 c_now_shelves_pieces, oX1 a_now_lots c_now_lots_count a_now_lots_product a_now_lots_last a_now_lots_cost a_now_lots_state a_now_lots_byLast, rI cI a_now_lots_product 24 c_now_lots_product, rI cI a_now_lots_last 24 c_now_lots_last, rI cI a_now_lots_state 24 c_now_lots_state, oX2 a_now_orders c_now_orders_count c_now_orders_gifts a_now_orders_customer a_now_orders_product a_now_orders_open a_now_orders_due a_now_orders_life a_now_orders_byDue a_now_orders_had a_now_orders_stamps, rI cI a_now_orders_product 40 c_now_orders_product, rI cI a_now_orders_open 40 c_now_orders_open, rI cI a_now_orders_due 40 c_now_orders_due, rI cI a_now_orders_life 40 c_now_orders_life, rI cI a_rest 24 c_rest] H := by rw [hHe]; exact hP
  have hS : va_S A s.heap H [] := by rw [hHe]; exact hS
  refine W_heq hHe ?_
  unfold f_X7_difference at hf
  refine lv_aload_n hx hb dX7_difference_0 rfl (lv_at hl 0 rfl) ?_
  refine lv_iload_n hx hb dX7_difference_1 rfl (lv_at hl 1 rfl) ?_
  obtain ⟨r1, hc2, hf⟩ := ob1 hf
  refine rx_callv (r9 := r1) (vx_runV (As := [.int v1]) (rest := []) ⟨hx, hb, hml, hown, hts⟩ (k_X7_needProduct l hl0 D cI cJ cZ cS B0 H a0 a_now a_past a_plan a_picker a_rest a_packed a_now_items a_now_books a_now_terms a_now_shelves a_now_lots a_now_orders c_acts c_nextSlot c_now_today c_now_products c_now_itemCount v1 r1 hc2) (cwV 1 hts (gV tb_647 tb_649 ts_12 tb_1 tb_650) rfl rfl rfl (by decide +kernel) ⟨Nat.le_of_ble_eq_true rfl, Nat.le_of_ble_eq_true rfl⟩) ⟨rp_blind, va_recv hK hP (ci := 6) (q0 := 0) rfl rfl, rp_pre (hP.sub [0, 1] rfl) hK (hBn _ _ hS) (hEn _ _ hS)⟩ rfl rfl hl.1 rfl (lv_room (Nat.le_of_ble_eq_true rfl)) dX7_difference_2 ⟨Nat.le_of_ble_eq_true rfl, Nat.le_of_ble_eq_true rfl⟩) hS hA (fun E3 ce q9 H1 locs1 hE9 hz9 hk9 hS hq9 hv9 hcl9 => ?_) (fun hr9 => ?_)
  · subst hE9
    have hf := mx_e hf
    cases hf
    exact vx_out (fun x hx => (hno x hx).elim) hlocks hq9 hv9 hcl9 (fun t ht hal => ⟨(), trivial, ⟨rfl, (by show va_P D vwCl _ t.heap; rw [ht]; exact va_Pk hP hk9)⟩, hS.F ht⟩) hS.2.2 (Nat.le_of_ble_eq_true rfl) (Nat.le_of_ble_eq_true rfl)
  · subst hr9
    have hf := mx_o hf
    refine lv_iload_n hx hb dX7_difference_5 rfl (lv_at hl 2 rfl) ?_
    refine lv_iconst (v := 0) hx hb dX7_difference_6 (by decide) ?_
    refine lv_sipush (v := 3000) hx hb dX7_difference_7 (by decide) ?_
    obtain ⟨r4, hc5, hf⟩ := ob1 hf
    refine rx_callv (r9 := r4) (vx_runS (As := [.int v2, .int 0, .int 3000]) (rest := []) ⟨hx, hb, hml, hown, hts⟩ (k_X7_needRange l hl0 D cI cJ cZ cS B0 H v2 0 3000 r4 hc5) (va_cwS 3 hts (gS tb_492 tb_493 tb_1 tb_494) rfl rfl rfl (by decide +kernel) ⟨Nat.le_of_ble_eq_true rfl, Nat.le_of_ble_eq_true rfl⟩) ⟨rp_blind, rp_pre (hP.sub [] rfl) hK (hBn _ _ hS) (hEn _ _ hS)⟩ rfl rfl hl.1 rfl (lv_room (Nat.le_of_ble_eq_true rfl)) dX7_difference_10 ⟨Nat.le_of_ble_eq_true rfl, Nat.le_of_ble_eq_true rfl⟩) hS hA (fun E6 ce q9 H1 locs1 hE9 hz9 hk9 hS hq9 hv9 hcl9 => ?_) (fun hr9 => ?_)
    · subst hE9
      have hf := mx_e hf
      cases hf
      exact vx_out (fun x hx => (hno x hx).elim) hlocks hq9 hv9 hcl9 (fun t ht hal => ⟨(), trivial, ⟨rfl, (by show va_P D vwCl _ t.heap; rw [ht]; exact va_Pk hP hk9)⟩, hS.F ht⟩) hS.2.2 (Nat.le_of_ble_eq_true rfl) (Nat.le_of_ble_eq_true rfl)
    · subst hr9
      have hf := mx_o hf
      refine lv_aload_n hx hb dX7_difference_13 rfl (lv_at hl 0 rfl) ?_
      refine lv_iload_n hx hb dX7_difference_14 rfl (lv_at hl 1 rfl) ?_
      refine lv_iload_n hx hb dX7_difference_15 rfl (lv_at hl 2 rfl) ?_
      obtain ⟨r7, o9, hc8, hf⟩ := ob2 hf
      refine rw_calli (r := r7) (va_runV (As := [.int v1, .int v2]) (rest := []) ⟨hx, hb, hml, hown, hts⟩ (k_X7_lackAt l hl0 D cI cJ cZ cS B0 H.size a0 a_now a_past a_plan a_picker a_rest a_packed a_now_items a_now_books a_now_terms a_now_shelves a_now_lots a_now_orders a_now_shelves_lot a_now_shelves_pieces a_now_shelves_mark a_now_shelves_byDistance a_now_lots_product a_now_lots_last a_now_lots_cost a_now_lots_state a_now_lots_byLast a_now_orders_customer a_now_orders_product a_now_orders_open a_now_orders_due a_now_orders_life a_now_orders_byDue a_now_orders_had a_now_orders_stamps c_acts c_nextSlot c_now_today c_now_products c_now_itemCount c_now_shelves_lanes c_now_shelves_positions c_now_shelves_room c_now_shelves_gap c_now_shelves_places c_now_shelves_picked c_now_shelves_lot c_now_shelves_pieces c_now_lots_count c_now_lots_product c_now_lots_last c_now_lots_state c_now_orders_count c_now_orders_gifts c_now_orders_product c_now_orders_open c_now_orders_due c_now_orders_life c_rest v1 v2 r7 o9 hc8) (cwV 2 hts (gV tb_439 tb_441 ts_6 tb_1 tb_442) rfl rfl rfl (by decide +kernel) ⟨Nat.le_of_ble_eq_true rfl, Nat.le_of_ble_eq_true rfl⟩) ⟨wp_blind, va_recv hK hP (ci := 6) (q0 := 0) rfl rfl, wp_pre (hP.sub [0, 1, 2, 3, 4, 5, 6, 7, 8, 9, 10, 11, 12, 13, 14] rfl) hK (va_D.sub (hD.weaken (fun _ _ _ h9 => hAB _ h9)) [0, 1, 2, 3, 4, 5, 6, 7, 8, 9, 10, 11, 12, 13, 14] rfl rfl) (hBn _ _ hS) (hEn _ _ hS)⟩ rfl rfl hl.1 rfl (lv_room (Nat.le_of_ble_eq_true rfl)) dX7_difference_16 ⟨Nat.le_of_ble_eq_true rfl, Nat.le_of_ble_eq_true rfl⟩) hP hD hS hA [oX7 a0 a_now a_past c_acts c_nextSlot a_plan a_picker a_rest a_packed, oX6 a_now c_now_today c_now_products c_now_itemCount a_now_items a_now_books a_now_terms a_now_shelves a_now_lots a_now_orders, oX5 a_now_shelves c_now_shelves_lanes c_now_shelves_positions c_now_shelves_room c_now_shelves_gap c_now_shelves_places c_now_shelves_picked a_now_shelves_lot a_now_shelves_pieces a_now_shelves_mark a_now_shelves_byDistance, rI cI a_now_shelves_lot 48 c_now_shelves_lot, rI cI a_now_shelves_pieces 48 c_now_shelves_pieces, oX1 a_now_lots c_now_lots_count a_now_lots_product a_now_lots_last a_now_lots_cost a_now_lots_state a_now_lots_byLast, rI cI a_now_lots_product 24 c_now_lots_product, rI cI a_now_lots_last 24 c_now_lots_last, rI cI a_now_lots_state 24 c_now_lots_state, oX2 a_now_orders c_now_orders_count c_now_orders_gifts a_now_orders_customer a_now_orders_product a_now_orders_open a_now_orders_due a_now_orders_life a_now_orders_byDue a_now_orders_had a_now_orders_stamps, rI cI a_now_orders_product 40 c_now_orders_product, rI cI a_now_orders_open 40 c_now_orders_open, rI cI a_now_orders_due 40 c_now_orders_due, rI cI a_now_orders_life 40 c_now_orders_life, rI cI a_rest 24 o9] 15 [0, 1, 2, 3, 4, 5, 6, 7, 8, 9, 10, 11, 12, 13, 14] [] rfl rfl rfl rfl (by decide +kernel) rfl (fun H locs hP hD hS => ?_)
      cases hf
      refine vx_ret ?_
      refine W.widen (k := 1) (n := 6) (Nat.le_of_ble_eq_true rfl) (Nat.le_of_ble_eq_true rfl) ?_
      exact W.iret hx hb hr (fun t ht hW => ⟨⟨_, (), rfl, rfl, (by show va_P D vwCl _ t.heap; rw [ht]; exact hP)⟩, hS.F ht⟩) hS.2.2 dX7_difference_19
def f_J13_bitCount_95d88 (v0 : Int64) : Option (Int32) :=
  some ((((((((((v0 - (((v0.toUInt64 >>> ((1 : Int32).toInt64.toUInt64 &&& Int64.toUInt64 63)).toInt64) &&& 6148914691236517205)) &&& 3689348814741910323) + ((((v0 - (((v0.toUInt64 >>> ((1 : Int32).toInt64.toUInt64 &&& Int64.toUInt64 63)).toInt64) &&& 6148914691236517205)).toUInt64 >>> ((2 : Int32).toInt64.toUInt64 &&& Int64.toUInt64 63)).toInt64) &&& 3689348814741910323)) + (((((v0 - (((v0.toUInt64 >>> ((1 : Int32).toInt64.toUInt64 &&& Int64.toUInt64 63)).toInt64) &&& 6148914691236517205)) &&& 3689348814741910323) + ((((v0 - (((v0.toUInt64 >>> ((1 : Int32).toInt64.toUInt64 &&& Int64.toUInt64 63)).toInt64) &&& 6148914691236517205)).toUInt64 >>> ((2 : Int32).toInt64.toUInt64 &&& Int64.toUInt64 63)).toInt64) &&& 3689348814741910323)).toUInt64 >>> ((4 : Int32).toInt64.toUInt64 &&& Int64.toUInt64 63)).toInt64)) &&& 1085102592571150095) + (((((((v0 - (((v0.toUInt64 >>> ((1 : Int32).toInt64.toUInt64 &&& Int64.toUInt64 63)).toInt64) &&& 6148914691236517205)) &&& 3689348814741910323) + ((((v0 - (((v0.toUInt64 >>> ((1 : Int32).toInt64.toUInt64 &&& Int64.toUInt64 63)).toInt64) &&& 6148914691236517205)).toUInt64 >>> ((2 : Int32).toInt64.toUInt64 &&& Int64.toUInt64 63)).toInt64) &&& 3689348814741910323)) + (((((v0 - (((v0.toUInt64 >>> ((1 : Int32).toInt64.toUInt64 &&& Int64.toUInt64 63)).toInt64) &&& 6148914691236517205)) &&& 3689348814741910323) + ((((v0 - (((v0.toUInt64 >>> ((1 : Int32).toInt64.toUInt64 &&& Int64.toUInt64 63)).toInt64) &&& 6148914691236517205)).toUInt64 >>> ((2 : Int32).toInt64.toUInt64 &&& Int64.toUInt64 63)).toInt64) &&& 3689348814741910323)).toUInt64 >>> ((4 : Int32).toInt64.toUInt64 &&& Int64.toUInt64 63)).toInt64)) &&& 1085102592571150095).toUInt64 >>> ((8 : Int32).toInt64.toUInt64 &&& Int64.toUInt64 63)).toInt64)) + ((((((((v0 - (((v0.toUInt64 >>> ((1 : Int32).toInt64.toUInt64 &&& Int64.toUInt64 63)).toInt64) &&& 6148914691236517205)) &&& 3689348814741910323) + ((((v0 - (((v0.toUInt64 >>> ((1 : Int32).toInt64.toUInt64 &&& Int64.toUInt64 63)).toInt64) &&& 6148914691236517205)).toUInt64 >>> ((2 : Int32).toInt64.toUInt64 &&& Int64.toUInt64 63)).toInt64) &&& 3689348814741910323)) + (((((v0 - (((v0.toUInt64 >>> ((1 : Int32).toInt64.toUInt64 &&& Int64.toUInt64 63)).toInt64) &&& 6148914691236517205)) &&& 3689348814741910323) + ((((v0 - (((v0.toUInt64 >>> ((1 : Int32).toInt64.toUInt64 &&& Int64.toUInt64 63)).toInt64) &&& 6148914691236517205)).toUInt64 >>> ((2 : Int32).toInt64.toUInt64 &&& Int64.toUInt64 63)).toInt64) &&& 3689348814741910323)).toUInt64 >>> ((4 : Int32).toInt64.toUInt64 &&& Int64.toUInt64 63)).toInt64)) &&& 1085102592571150095) + (((((((v0 - (((v0.toUInt64 >>> ((1 : Int32).toInt64.toUInt64 &&& Int64.toUInt64 63)).toInt64) &&& 6148914691236517205)) &&& 3689348814741910323) + ((((v0 - (((v0.toUInt64 >>> ((1 : Int32).toInt64.toUInt64 &&& Int64.toUInt64 63)).toInt64) &&& 6148914691236517205)).toUInt64 >>> ((2 : Int32).toInt64.toUInt64 &&& Int64.toUInt64 63)).toInt64) &&& 3689348814741910323)) + (((((v0 - (((v0.toUInt64 >>> ((1 : Int32).toInt64.toUInt64 &&& Int64.toUInt64 63)).toInt64) &&& 6148914691236517205)) &&& 3689348814741910323) + ((((v0 - (((v0.toUInt64 >>> ((1 : Int32).toInt64.toUInt64 &&& Int64.toUInt64 63)).toInt64) &&& 6148914691236517205)).toUInt64 >>> ((2 : Int32).toInt64.toUInt64 &&& Int64.toUInt64 63)).toInt64) &&& 3689348814741910323)).toUInt64 >>> ((4 : Int32).toInt64.toUInt64 &&& Int64.toUInt64 63)).toInt64)) &&& 1085102592571150095).toUInt64 >>> ((8 : Int32).toInt64.toUInt64 &&& Int64.toUInt64 63)).toInt64)).toUInt64 >>> ((16 : Int32).toInt64.toUInt64 &&& Int64.toUInt64 63)).toInt64)) + (((((((((v0 - (((v0.toUInt64 >>> ((1 : Int32).toInt64.toUInt64 &&& Int64.toUInt64 63)).toInt64) &&& 6148914691236517205)) &&& 3689348814741910323) + ((((v0 - (((v0.toUInt64 >>> ((1 : Int32).toInt64.toUInt64 &&& Int64.toUInt64 63)).toInt64) &&& 6148914691236517205)).toUInt64 >>> ((2 : Int32).toInt64.toUInt64 &&& Int64.toUInt64 63)).toInt64) &&& 3689348814741910323)) + (((((v0 - (((v0.toUInt64 >>> ((1 : Int32).toInt64.toUInt64 &&& Int64.toUInt64 63)).toInt64) &&& 6148914691236517205)) &&& 3689348814741910323) + ((((v0 - (((v0.toUInt64 >>> ((1 : Int32).toInt64.toUInt64 &&& Int64.toUInt64 63)).toInt64) &&& 6148914691236517205)).toUInt64 >>> ((2 : Int32).toInt64.toUInt64 &&& Int64.toUInt64 63)).toInt64) &&& 3689348814741910323)).toUInt64 >>> ((4 : Int32).toInt64.toUInt64 &&& Int64.toUInt64 63)).toInt64)) &&& 1085102592571150095) + (((((((v0 - (((v0.toUInt64 >>> ((1 : Int32).toInt64.toUInt64 &&& Int64.toUInt64 63)).toInt64) &&& 6148914691236517205)) &&& 3689348814741910323) + ((((v0 - (((v0.toUInt64 >>> ((1 : Int32).toInt64.toUInt64 &&& Int64.toUInt64 63)).toInt64) &&& 6148914691236517205)).toUInt64 >>> ((2 : Int32).toInt64.toUInt64 &&& Int64.toUInt64 63)).toInt64) &&& 3689348814741910323)) + (((((v0 - (((v0.toUInt64 >>> ((1 : Int32).toInt64.toUInt64 &&& Int64.toUInt64 63)).toInt64) &&& 6148914691236517205)) &&& 3689348814741910323) + ((((v0 - (((v0.toUInt64 >>> ((1 : Int32).toInt64.toUInt64 &&& Int64.toUInt64 63)).toInt64) &&& 6148914691236517205)).toUInt64 >>> ((2 : Int32).toInt64.toUInt64 &&& Int64.toUInt64 63)).toInt64) &&& 3689348814741910323)).toUInt64 >>> ((4 : Int32).toInt64.toUInt64 &&& Int64.toUInt64 63)).toInt64)) &&& 1085102592571150095).toUInt64 >>> ((8 : Int32).toInt64.toUInt64 &&& Int64.toUInt64 63)).toInt64)) + ((((((((v0 - (((v0.toUInt64 >>> ((1 : Int32).toInt64.toUInt64 &&& Int64.toUInt64 63)).toInt64) &&& 6148914691236517205)) &&& 3689348814741910323) + ((((v0 - (((v0.toUInt64 >>> ((1 : Int32).toInt64.toUInt64 &&& Int64.toUInt64 63)).toInt64) &&& 6148914691236517205)).toUInt64 >>> ((2 : Int32).toInt64.toUInt64 &&& Int64.toUInt64 63)).toInt64) &&& 3689348814741910323)) + (((((v0 - (((v0.toUInt64 >>> ((1 : Int32).toInt64.toUInt64 &&& Int64.toUInt64 63)).toInt64) &&& 6148914691236517205)) &&& 3689348814741910323) + ((((v0 - (((v0.toUInt64 >>> ((1 : Int32).toInt64.toUInt64 &&& Int64.toUInt64 63)).toInt64) &&& 6148914691236517205)).toUInt64 >>> ((2 : Int32).toInt64.toUInt64 &&& Int64.toUInt64 63)).toInt64) &&& 3689348814741910323)).toUInt64 >>> ((4 : Int32).toInt64.toUInt64 &&& Int64.toUInt64 63)).toInt64)) &&& 1085102592571150095) + (((((((v0 - (((v0.toUInt64 >>> ((1 : Int32).toInt64.toUInt64 &&& Int64.toUInt64 63)).toInt64) &&& 6148914691236517205)) &&& 3689348814741910323) + ((((v0 - (((v0.toUInt64 >>> ((1 : Int32).toInt64.toUInt64 &&& Int64.toUInt64 63)).toInt64) &&& 6148914691236517205)).toUInt64 >>> ((2 : Int32).toInt64.toUInt64 &&& Int64.toUInt64 63)).toInt64) &&& 3689348814741910323)) + (((((v0 - (((v0.toUInt64 >>> ((1 : Int32).toInt64.toUInt64 &&& Int64.toUInt64 63)).toInt64) &&& 6148914691236517205)) &&& 3689348814741910323) + ((((v0 - (((v0.toUInt64 >>> ((1 : Int32).toInt64.toUInt64 &&& Int64.toUInt64 63)).toInt64) &&& 6148914691236517205)).toUInt64 >>> ((2 : Int32).toInt64.toUInt64 &&& Int64.toUInt64 63)).toInt64) &&& 3689348814741910323)).toUInt64 >>> ((4 : Int32).toInt64.toUInt64 &&& Int64.toUInt64 63)).toInt64)) &&& 1085102592571150095).toUInt64 >>> ((8 : Int32).toInt64.toUInt64 &&& Int64.toUInt64 63)).toInt64)).toUInt64 >>> ((16 : Int32).toInt64.toUInt64 &&& Int64.toUInt64 63)).toInt64)).toUInt64 >>> ((32 : Int32).toInt64.toUInt64 &&& Int64.toUInt64 63)).toInt64)).toInt32) &&& 127)
set_option maxHeartbeats 4000000 in
set_option maxRecDepth 100000 in
theorem k_J13_bitCount_95d88 (l : Launch) (hl0 : l.stackTraces = false) (D : va_G) (cI cJ cZ cS : ClassId) (B0 : Nat) (H0 : Heap) (v0 : Int64) (r9 : Int32)  (hf : f_J13_bitCount_95d88 v0 = some r9) : Met l yJ13_bitCount_95d88 (wz yJ13_bitCount_95d88 cJ13_bitCount_95d88 2 (some .int)) ({ frames := 0, cells := 0, slots := 0, locals := 0 }) (va_Pc [.long v0] (rp D cI cJ cZ cS B0 [] H0)) (va_Qi (fun (r2 : Int32) (_ : Unit) => r2 = r9) (fun _ t => t.heap = H0) (fun q => H0.size ≤ q)) 0 0 (fun q => H0.size ≤ q) := by
  refine Met.ofW (cc := cJ13_bitCount_95d88) (maxL := 2) (ret := (some .int)) (by decide) rfl ?_
  intro p e s m args below meth c s₁ B hml hv
  obtain ⟨rfl, hH, hP, hK, hB0, hE⟩ := hv
  subst hH
  have hx := B.exec
  have hb := B.bytes
  have hr := B.returns
  have hts := atoms_spec (ws := (wz yJ13_bitCount_95d88 cJ13_bitCount_95d88 2 (some .int))) B.pre
  have hown : s.vm.findClass RJ13 = some m.cls := findClass_of_methodNamed B.named
  have hlocks := B.notSynchronized
  have hAB : ∀ q : Nat, s.heap.size ≤ q → B0 ≤ q := fun q h => Nat.le_trans hB0 h
  have hA : ∀ q : Nat, s.heap.size ≤ q → s.heap.size ≤ q := fun _ h => h
  have hS : va_S (fun q => s.heap.size ≤ q) s.heap s.heap [] := va_S.rf
  have hBn := fun (H : Heap) (locs : List Loc) (h : va_S (fun q => s.heap.size ≤ q) s.heap H locs) => Nat.le_trans hB0 h.1
  have hEn := fun (H : Heap) (locs : List Loc) (h : va_S (fun q => s.heap.size ≤ q) s.heap H locs) => gE_now hE h hAB
  have hl := lv_entry ([.long v0]) (n := 2) (Nat.le_of_ble_eq_true rfl)
  rw [lg_entry_eq]
  generalize (lg_sl ([.long v0]) ++ List.replicate (2 - (lg_sl ([.long v0])).length) Slot.unset).toArray = ls at hl ⊢
  have hl : lv_has ls 2 [(0, .long v0)] := hl
  obtain ⟨H, hHe⟩ : ∃ H : Heap, H = s.heap := ⟨_, rfl⟩
  have hP : va_P D vwCl [] H := by rw [hHe]; exact hP
  have hS : va_S (fun q => s.heap.size ≤ q) s.heap H [] := by rw [hHe]; exact hS
  refine W_heq hHe ?_
  unfold f_J13_bitCount_95d88 at hf
  refine lv_lload_n hx hb dJ13_bitCount_95d88_0 rfl (lv_at hl 0 rfl) ?_
  refine lv_lload_n hx hb dJ13_bitCount_95d88_1 rfl (lv_at hl 0 rfl) ?_
  refine lv_iconst (v := 1) hx hb dJ13_bitCount_95d88_2 (by decide) ?_
  refine lv_lushr hx hb dJ13_bitCount_95d88_3 rfl ?_
  refine lv_ldc2 hx hb hown (hts _ (mb tb_390)) dJ13_bitCount_95d88_4 ?_
  refine lv_land hx hb dJ13_bitCount_95d88_7 ?_
  refine lv_lsub hx hb dJ13_bitCount_95d88_8 ?_
  refine lv_lstore_n (lv' := [(0, .long (v0 - (((v0.toUInt64 >>> ((1 : Int32).toInt64.toUInt64 &&& Int64.toUInt64 63)).toInt64) &&& 6148914691236517205)))]) hx hb dJ13_bitCount_95d88_9 rfl hl (by decide) rfl (fun ls hl => ?_)
  refine lv_lload_n hx hb dJ13_bitCount_95d88_10 rfl (lv_at hl 0 rfl) ?_
  refine lv_ldc2 hx hb hown (hts _ (mb tb_391)) dJ13_bitCount_95d88_11 ?_
  refine lv_land hx hb dJ13_bitCount_95d88_14 ?_
  refine lv_lload_n hx hb dJ13_bitCount_95d88_15 rfl (lv_at hl 0 rfl) ?_
  refine lv_iconst (v := 2) hx hb dJ13_bitCount_95d88_16 (by decide) ?_
  refine lv_lushr hx hb dJ13_bitCount_95d88_17 rfl ?_
  refine lv_ldc2 hx hb hown (hts _ (mb tb_391)) dJ13_bitCount_95d88_18 ?_
  refine lv_land hx hb dJ13_bitCount_95d88_21 ?_
  refine lv_ladd hx hb dJ13_bitCount_95d88_22 ?_
  refine lv_lstore_n (lv' := [(0, .long (((v0 - (((v0.toUInt64 >>> ((1 : Int32).toInt64.toUInt64 &&& Int64.toUInt64 63)).toInt64) &&& 6148914691236517205)) &&& 3689348814741910323) + ((((v0 - (((v0.toUInt64 >>> ((1 : Int32).toInt64.toUInt64 &&& Int64.toUInt64 63)).toInt64) &&& 6148914691236517205)).toUInt64 >>> ((2 : Int32).toInt64.toUInt64 &&& Int64.toUInt64 63)).toInt64) &&& 3689348814741910323)))]) hx hb dJ13_bitCount_95d88_23 rfl hl (by decide) rfl (fun ls hl => ?_)
  refine lv_lload_n hx hb dJ13_bitCount_95d88_24 rfl (lv_at hl 0 rfl) ?_
  refine lv_lload_n hx hb dJ13_bitCount_95d88_25 rfl (lv_at hl 0 rfl) ?_
  refine lv_iconst (v := 4) hx hb dJ13_bitCount_95d88_26 (by decide) ?_
  refine lv_lushr hx hb dJ13_bitCount_95d88_27 rfl ?_
  refine lv_ladd hx hb dJ13_bitCount_95d88_28 ?_
  refine lv_ldc2 hx hb hown (hts _ (mb tb_392)) dJ13_bitCount_95d88_29 ?_
  refine lv_land hx hb dJ13_bitCount_95d88_32 ?_
  refine lv_lstore_n (lv' := [(0, .long (((((v0 - (((v0.toUInt64 >>> ((1 : Int32).toInt64.toUInt64 &&& Int64.toUInt64 63)).toInt64) &&& 6148914691236517205)) &&& 3689348814741910323) + ((((v0 - (((v0.toUInt64 >>> ((1 : Int32).toInt64.toUInt64 &&& Int64.toUInt64 63)).toInt64) &&& 6148914691236517205)).toUInt64 >>> ((2 : Int32).toInt64.toUInt64 &&& Int64.toUInt64 63)).toInt64) &&& 3689348814741910323)) + (((((v0 - (((v0.toUInt64 >>> ((1 : Int32).toInt64.toUInt64 &&& Int64.toUInt64 63)).toInt64) &&& 6148914691236517205)) &&& 3689348814741910323) + ((((v0 - (((v0.toUInt64 >>> ((1 : Int32).toInt64.toUInt64 &&& Int64.toUInt64 63)).toInt64) &&& 6148914691236517205)).toUInt64 >>> ((2 : Int32).toInt64.toUInt64 &&& Int64.toUInt64 63)).toInt64) &&& 3689348814741910323)).toUInt64 >>> ((4 : Int32).toInt64.toUInt64 &&& Int64.toUInt64 63)).toInt64)) &&& 1085102592571150095))]) hx hb dJ13_bitCount_95d88_33 rfl hl (by decide) rfl (fun ls hl => ?_)
  refine lv_lload_n hx hb dJ13_bitCount_95d88_34 rfl (lv_at hl 0 rfl) ?_
  refine lv_lload_n hx hb dJ13_bitCount_95d88_35 rfl (lv_at hl 0 rfl) ?_
  refine lv_bipush (v := 8) hx hb dJ13_bitCount_95d88_36 (by decide) ?_
  refine lv_lushr hx hb dJ13_bitCount_95d88_38 rfl ?_
  refine lv_ladd hx hb dJ13_bitCount_95d88_39 ?_
  refine lv_lstore_n (lv' := [(0, .long ((((((v0 - (((v0.toUInt64 >>> ((1 : Int32).toInt64.toUInt64 &&& Int64.toUInt64 63)).toInt64) &&& 6148914691236517205)) &&& 3689348814741910323) + ((((v0 - (((v0.toUInt64 >>> ((1 : Int32).toInt64.toUInt64 &&& Int64.toUInt64 63)).toInt64) &&& 6148914691236517205)).toUInt64 >>> ((2 : Int32).toInt64.toUInt64 &&& Int64.toUInt64 63)).toInt64) &&& 3689348814741910323)) + (((((v0 - (((v0.toUInt64 >>> ((1 : Int32).toInt64.toUInt64 &&& Int64.toUInt64 63)).toInt64) &&& 6148914691236517205)) &&& 3689348814741910323) + ((((v0 - (((v0.toUInt64 >>> ((1 : Int32).toInt64.toUInt64 &&& Int64.toUInt64 63)).toInt64) &&& 6148914691236517205)).toUInt64 >>> ((2 : Int32).toInt64.toUInt64 &&& Int64.toUInt64 63)).toInt64) &&& 3689348814741910323)).toUInt64 >>> ((4 : Int32).toInt64.toUInt64 &&& Int64.toUInt64 63)).toInt64)) &&& 1085102592571150095) + (((((((v0 - (((v0.toUInt64 >>> ((1 : Int32).toInt64.toUInt64 &&& Int64.toUInt64 63)).toInt64) &&& 6148914691236517205)) &&& 3689348814741910323) + ((((v0 - (((v0.toUInt64 >>> ((1 : Int32).toInt64.toUInt64 &&& Int64.toUInt64 63)).toInt64) &&& 6148914691236517205)).toUInt64 >>> ((2 : Int32).toInt64.toUInt64 &&& Int64.toUInt64 63)).toInt64) &&& 3689348814741910323)) + (((((v0 - (((v0.toUInt64 >>> ((1 : Int32).toInt64.toUInt64 &&& Int64.toUInt64 63)).toInt64) &&& 6148914691236517205)) &&& 3689348814741910323) + ((((v0 - (((v0.toUInt64 >>> ((1 : Int32).toInt64.toUInt64 &&& Int64.toUInt64 63)).toInt64) &&& 6148914691236517205)).toUInt64 >>> ((2 : Int32).toInt64.toUInt64 &&& Int64.toUInt64 63)).toInt64) &&& 3689348814741910323)).toUInt64 >>> ((4 : Int32).toInt64.toUInt64 &&& Int64.toUInt64 63)).toInt64)) &&& 1085102592571150095).toUInt64 >>> ((8 : Int32).toInt64.toUInt64 &&& Int64.toUInt64 63)).toInt64)))]) hx hb dJ13_bitCount_95d88_40 rfl hl (by decide) rfl (fun ls hl => ?_)
  refine lv_lload_n hx hb dJ13_bitCount_95d88_41 rfl (lv_at hl 0 rfl) ?_
  refine lv_lload_n hx hb dJ13_bitCount_95d88_42 rfl (lv_at hl 0 rfl) ?_
  refine lv_bipush (v := 16) hx hb dJ13_bitCount_95d88_43 (by decide) ?_
  refine lv_lushr hx hb dJ13_bitCount_95d88_45 rfl ?_
  refine lv_ladd hx hb dJ13_bitCount_95d88_46 ?_
  refine lv_lstore_n (lv' := [(0, .long (((((((v0 - (((v0.toUInt64 >>> ((1 : Int32).toInt64.toUInt64 &&& Int64.toUInt64 63)).toInt64) &&& 6148914691236517205)) &&& 3689348814741910323) + ((((v0 - (((v0.toUInt64 >>> ((1 : Int32).toInt64.toUInt64 &&& Int64.toUInt64 63)).toInt64) &&& 6148914691236517205)).toUInt64 >>> ((2 : Int32).toInt64.toUInt64 &&& Int64.toUInt64 63)).toInt64) &&& 3689348814741910323)) + (((((v0 - (((v0.toUInt64 >>> ((1 : Int32).toInt64.toUInt64 &&& Int64.toUInt64 63)).toInt64) &&& 6148914691236517205)) &&& 3689348814741910323) + ((((v0 - (((v0.toUInt64 >>> ((1 : Int32).toInt64.toUInt64 &&& Int64.toUInt64 63)).toInt64) &&& 6148914691236517205)).toUInt64 >>> ((2 : Int32).toInt64.toUInt64 &&& Int64.toUInt64 63)).toInt64) &&& 3689348814741910323)).toUInt64 >>> ((4 : Int32).toInt64.toUInt64 &&& Int64.toUInt64 63)).toInt64)) &&& 1085102592571150095) + (((((((v0 - (((v0.toUInt64 >>> ((1 : Int32).toInt64.toUInt64 &&& Int64.toUInt64 63)).toInt64) &&& 6148914691236517205)) &&& 3689348814741910323) + ((((v0 - (((v0.toUInt64 >>> ((1 : Int32).toInt64.toUInt64 &&& Int64.toUInt64 63)).toInt64) &&& 6148914691236517205)).toUInt64 >>> ((2 : Int32).toInt64.toUInt64 &&& Int64.toUInt64 63)).toInt64) &&& 3689348814741910323)) + (((((v0 - (((v0.toUInt64 >>> ((1 : Int32).toInt64.toUInt64 &&& Int64.toUInt64 63)).toInt64) &&& 6148914691236517205)) &&& 3689348814741910323) + ((((v0 - (((v0.toUInt64 >>> ((1 : Int32).toInt64.toUInt64 &&& Int64.toUInt64 63)).toInt64) &&& 6148914691236517205)).toUInt64 >>> ((2 : Int32).toInt64.toUInt64 &&& Int64.toUInt64 63)).toInt64) &&& 3689348814741910323)).toUInt64 >>> ((4 : Int32).toInt64.toUInt64 &&& Int64.toUInt64 63)).toInt64)) &&& 1085102592571150095).toUInt64 >>> ((8 : Int32).toInt64.toUInt64 &&& Int64.toUInt64 63)).toInt64)) + ((((((((v0 - (((v0.toUInt64 >>> ((1 : Int32).toInt64.toUInt64 &&& Int64.toUInt64 63)).toInt64) &&& 6148914691236517205)) &&& 3689348814741910323) + ((((v0 - (((v0.toUInt64 >>> ((1 : Int32).toInt64.toUInt64 &&& Int64.toUInt64 63)).toInt64) &&& 6148914691236517205)).toUInt64 >>> ((2 : Int32).toInt64.toUInt64 &&& Int64.toUInt64 63)).toInt64) &&& 3689348814741910323)) + (((((v0 - (((v0.toUInt64 >>> ((1 : Int32).toInt64.toUInt64 &&& Int64.toUInt64 63)).toInt64) &&& 6148914691236517205)) &&& 3689348814741910323) + ((((v0 - (((v0.toUInt64 >>> ((1 : Int32).toInt64.toUInt64 &&& Int64.toUInt64 63)).toInt64) &&& 6148914691236517205)).toUInt64 >>> ((2 : Int32).toInt64.toUInt64 &&& Int64.toUInt64 63)).toInt64) &&& 3689348814741910323)).toUInt64 >>> ((4 : Int32).toInt64.toUInt64 &&& Int64.toUInt64 63)).toInt64)) &&& 1085102592571150095) + (((((((v0 - (((v0.toUInt64 >>> ((1 : Int32).toInt64.toUInt64 &&& Int64.toUInt64 63)).toInt64) &&& 6148914691236517205)) &&& 3689348814741910323) + ((((v0 - (((v0.toUInt64 >>> ((1 : Int32).toInt64.toUInt64 &&& Int64.toUInt64 63)).toInt64) &&& 6148914691236517205)).toUInt64 >>> ((2 : Int32).toInt64.toUInt64 &&& Int64.toUInt64 63)).toInt64) &&& 3689348814741910323)) + (((((v0 - (((v0.toUInt64 >>> ((1 : Int32).toInt64.toUInt64 &&& Int64.toUInt64 63)).toInt64) &&& 6148914691236517205)) &&& 3689348814741910323) + ((((v0 - (((v0.toUInt64 >>> ((1 : Int32).toInt64.toUInt64 &&& Int64.toUInt64 63)).toInt64) &&& 6148914691236517205)).toUInt64 >>> ((2 : Int32).toInt64.toUInt64 &&& Int64.toUInt64 63)).toInt64) &&& 3689348814741910323)).toUInt64 >>> ((4 : Int32).toInt64.toUInt64 &&& Int64.toUInt64 63)).toInt64)) &&& 1085102592571150095).toUInt64 >>> ((8 : Int32).toInt64.toUInt64 &&& Int64.toUInt64 63)).toInt64)).toUInt64 >>> ((16 : Int32).toInt64.toUInt64 &&& Int64.toUInt64 63)).toInt64)))]) hx hb dJ13_bitCount_95d88_47 rfl hl (by decide) rfl (fun ls hl => ?_)
  refine lv_lload_n hx hb dJ13_bitCount_95d88_48 rfl (lv_at hl 0 rfl) ?_
  refine lv_lload_n hx hb dJ13_bitCount_95d88_49 rfl (lv_at hl 0 rfl) ?_
  refine lv_bipush (v := 32) hx hb dJ13_bitCount_95d88_50 (by decide) ?_
  refine lv_lushr hx hb dJ13_bitCount_95d88_52 rfl ?_
  refine lv_ladd hx hb dJ13_bitCount_95d88_53 ?_
  refine lv_lstore_n (lv' := [(0, .long ((((((((v0 - (((v0.toUInt64 >>> ((1 : Int32).toInt64.toUInt64 &&& Int64.toUInt64 63)).toInt64) &&& 6148914691236517205)) &&& 3689348814741910323) + ((((v0 - (((v0.toUInt64 >>> ((1 : Int32).toInt64.toUInt64 &&& Int64.toUInt64 63)).toInt64) &&& 6148914691236517205)).toUInt64 >>> ((2 : Int32).toInt64.toUInt64 &&& Int64.toUInt64 63)).toInt64) &&& 3689348814741910323)) + (((((v0 - (((v0.toUInt64 >>> ((1 : Int32).toInt64.toUInt64 &&& Int64.toUInt64 63)).toInt64) &&& 6148914691236517205)) &&& 3689348814741910323) + ((((v0 - (((v0.toUInt64 >>> ((1 : Int32).toInt64.toUInt64 &&& Int64.toUInt64 63)).toInt64) &&& 6148914691236517205)).toUInt64 >>> ((2 : Int32).toInt64.toUInt64 &&& Int64.toUInt64 63)).toInt64) &&& 3689348814741910323)).toUInt64 >>> ((4 : Int32).toInt64.toUInt64 &&& Int64.toUInt64 63)).toInt64)) &&& 1085102592571150095) + (((((((v0 - (((v0.toUInt64 >>> ((1 : Int32).toInt64.toUInt64 &&& Int64.toUInt64 63)).toInt64) &&& 6148914691236517205)) &&& 3689348814741910323) + ((((v0 - (((v0.toUInt64 >>> ((1 : Int32).toInt64.toUInt64 &&& Int64.toUInt64 63)).toInt64) &&& 6148914691236517205)).toUInt64 >>> ((2 : Int32).toInt64.toUInt64 &&& Int64.toUInt64 63)).toInt64) &&& 3689348814741910323)) + (((((v0 - (((v0.toUInt64 >>> ((1 : Int32).toInt64.toUInt64 &&& Int64.toUInt64 63)).toInt64) &&& 6148914691236517205)) &&& 3689348814741910323) + ((((v0 - (((v0.toUInt64 >>> ((1 : Int32).toInt64.toUInt64 &&& Int64.toUInt64 63)).toInt64) &&& 6148914691236517205)).toUInt64 >>> ((2 : Int32).toInt64.toUInt64 &&& Int64.toUInt64 63)).toInt64) &&& 3689348814741910323)).toUInt64 >>> ((4 : Int32).toInt64.toUInt64 &&& Int64.toUInt64 63)).toInt64)) &&& 1085102592571150095).toUInt64 >>> ((8 : Int32).toInt64.toUInt64 &&& Int64.toUInt64 63)).toInt64)) + ((((((((v0 - (((v0.toUInt64 >>> ((1 : Int32).toInt64.toUInt64 &&& Int64.toUInt64 63)).toInt64) &&& 6148914691236517205)) &&& 3689348814741910323) + ((((v0 - (((v0.toUInt64 >>> ((1 : Int32).toInt64.toUInt64 &&& Int64.toUInt64 63)).toInt64) &&& 6148914691236517205)).toUInt64 >>> ((2 : Int32).toInt64.toUInt64 &&& Int64.toUInt64 63)).toInt64) &&& 3689348814741910323)) + (((((v0 - (((v0.toUInt64 >>> ((1 : Int32).toInt64.toUInt64 &&& Int64.toUInt64 63)).toInt64) &&& 6148914691236517205)) &&& 3689348814741910323) + ((((v0 - (((v0.toUInt64 >>> ((1 : Int32).toInt64.toUInt64 &&& Int64.toUInt64 63)).toInt64) &&& 6148914691236517205)).toUInt64 >>> ((2 : Int32).toInt64.toUInt64 &&& Int64.toUInt64 63)).toInt64) &&& 3689348814741910323)).toUInt64 >>> ((4 : Int32).toInt64.toUInt64 &&& Int64.toUInt64 63)).toInt64)) &&& 1085102592571150095) + (((((((v0 - (((v0.toUInt64 >>> ((1 : Int32).toInt64.toUInt64 &&& Int64.toUInt64 63)).toInt64) &&& 6148914691236517205)) &&& 3689348814741910323) + ((((v0 - (((v0.toUInt64 >>> ((1 : Int32).toInt64.toUInt64 &&& Int64.toUInt64 63)).toInt64) &&& 6148914691236517205)).toUInt64 >>> ((2 : Int32).toInt64.toUInt64 &&& Int64.toUInt64 63)).toInt64) &&& 3689348814741910323)) + (((((v0 - (((v0.toUInt64 >>> ((1 : Int32).toInt64.toUInt64 &&& Int64.toUInt64 63)).toInt64) &&& 6148914691236517205)) &&& 3689348814741910323) + ((((v0 - (((v0.toUInt64 >>> ((1 : Int32).toInt64.toUInt64 &&& Int64.toUInt64 63)).toInt64) &&& 6148914691236517205)).toUInt64 >>> ((2 : Int32).toInt64.toUInt64 &&& Int64.toUInt64 63)).toInt64) &&& 3689348814741910323)).toUInt64 >>> ((4 : Int32).toInt64.toUInt64 &&& Int64.toUInt64 63)).toInt64)) &&& 1085102592571150095).toUInt64 >>> ((8 : Int32).toInt64.toUInt64 &&& Int64.toUInt64 63)).toInt64)).toUInt64 >>> ((16 : Int32).toInt64.toUInt64 &&& Int64.toUInt64 63)).toInt64)) + (((((((((v0 - (((v0.toUInt64 >>> ((1 : Int32).toInt64.toUInt64 &&& Int64.toUInt64 63)).toInt64) &&& 6148914691236517205)) &&& 3689348814741910323) + ((((v0 - (((v0.toUInt64 >>> ((1 : Int32).toInt64.toUInt64 &&& Int64.toUInt64 63)).toInt64) &&& 6148914691236517205)).toUInt64 >>> ((2 : Int32).toInt64.toUInt64 &&& Int64.toUInt64 63)).toInt64) &&& 3689348814741910323)) + (((((v0 - (((v0.toUInt64 >>> ((1 : Int32).toInt64.toUInt64 &&& Int64.toUInt64 63)).toInt64) &&& 6148914691236517205)) &&& 3689348814741910323) + ((((v0 - (((v0.toUInt64 >>> ((1 : Int32).toInt64.toUInt64 &&& Int64.toUInt64 63)).toInt64) &&& 6148914691236517205)).toUInt64 >>> ((2 : Int32).toInt64.toUInt64 &&& Int64.toUInt64 63)).toInt64) &&& 3689348814741910323)).toUInt64 >>> ((4 : Int32).toInt64.toUInt64 &&& Int64.toUInt64 63)).toInt64)) &&& 1085102592571150095) + (((((((v0 - (((v0.toUInt64 >>> ((1 : Int32).toInt64.toUInt64 &&& Int64.toUInt64 63)).toInt64) &&& 6148914691236517205)) &&& 3689348814741910323) + ((((v0 - (((v0.toUInt64 >>> ((1 : Int32).toInt64.toUInt64 &&& Int64.toUInt64 63)).toInt64) &&& 6148914691236517205)).toUInt64 >>> ((2 : Int32).toInt64.toUInt64 &&& Int64.toUInt64 63)).toInt64) &&& 3689348814741910323)) + (((((v0 - (((v0.toUInt64 >>> ((1 : Int32).toInt64.toUInt64 &&& Int64.toUInt64 63)).toInt64) &&& 6148914691236517205)) &&& 3689348814741910323) + ((((v0 - (((v0.toUInt64 >>> ((1 : Int32).toInt64.toUInt64 &&& Int64.toUInt64 63)).toInt64) &&& 6148914691236517205)).toUInt64 >>> ((2 : Int32).toInt64.toUInt64 &&& Int64.toUInt64 63)).toInt64) &&& 3689348814741910323)).toUInt64 >>> ((4 : Int32).toInt64.toUInt64 &&& Int64.toUInt64 63)).toInt64)) &&& 1085102592571150095).toUInt64 >>> ((8 : Int32).toInt64.toUInt64 &&& Int64.toUInt64 63)).toInt64)) + ((((((((v0 - (((v0.toUInt64 >>> ((1 : Int32).toInt64.toUInt64 &&& Int64.toUInt64 63)).toInt64) &&& 6148914691236517205)) &&& 3689348814741910323) + ((((v0 - (((v0.toUInt64 >>> ((1 : Int32).toInt64.toUInt64 &&& Int64.toUInt64 63)).toInt64) &&& 6148914691236517205)).toUInt64 >>> ((2 : Int32).toInt64.toUInt64 &&& Int64.toUInt64 63)).toInt64) &&& 3689348814741910323)) + (((((v0 - (((v0.toUInt64 >>> ((1 : Int32).toInt64.toUInt64 &&& Int64.toUInt64 63)).toInt64) &&& 6148914691236517205)) &&& 3689348814741910323) + ((((v0 - (((v0.toUInt64 >>> ((1 : Int32).toInt64.toUInt64 &&& Int64.toUInt64 63)).toInt64) &&& 6148914691236517205)).toUInt64 >>> ((2 : Int32).toInt64.toUInt64 &&& Int64.toUInt64 63)).toInt64) &&& 3689348814741910323)).toUInt64 >>> ((4 : Int32).toInt64.toUInt64 &&& Int64.toUInt64 63)).toInt64)) &&& 1085102592571150095) + (((((((v0 - (((v0.toUInt64 >>> ((1 : Int32).toInt64.toUInt64 &&& Int64.toUInt64 63)).toInt64) &&& 6148914691236517205)) &&& 3689348814741910323) + ((((v0 - (((v0.toUInt64 >>> ((1 : Int32).toInt64.toUInt64 &&& Int64.toUInt64 63)).toInt64) &&& 6148914691236517205)).toUInt64 >>> ((2 : Int32).toInt64.toUInt64 &&& Int64.toUInt64 63)).toInt64) &&& 3689348814741910323)) + (((((v0 - (((v0.toUInt64 >>> ((1 : Int32).toInt64.toUInt64 &&& Int64.toUInt64 63)).toInt64) &&& 6148914691236517205)) &&& 3689348814741910323) + ((((v0 - (((v0.toUInt64 >>> ((1 : Int32).toInt64.toUInt64 &&& Int64.toUInt64 63)).toInt64) &&& 6148914691236517205)).toUInt64 >>> ((2 : Int32).toInt64.toUInt64 &&& Int64.toUInt64 63)).toInt64) &&& 3689348814741910323)).toUInt64 >>> ((4 : Int32).toInt64.toUInt64 &&& Int64.toUInt64 63)).toInt64)) &&& 1085102592571150095).toUInt64 >>> ((8 : Int32).toInt64.toUInt64 &&& Int64.toUInt64 63)).toInt64)).toUInt64 >>> ((16 : Int32).toInt64.toUInt64 &&& Int64.toUInt64 63)).toInt64)).toUInt64 >>> ((32 : Int32).toInt64.toUInt64 &&& Int64.toUInt64 63)).toInt64)))]) hx hb dJ13_bitCount_95d88_54 rfl hl (by decide) rfl (fun ls hl => ?_)
  refine lv_lload_n hx hb dJ13_bitCount_95d88_55 rfl (lv_at hl 0 rfl) ?_
  refine lv_l2i hx hb dJ13_bitCount_95d88_56 rfl ?_
  refine lv_bipush (v := 127) hx hb dJ13_bitCount_95d88_57 (by decide) ?_
  refine lv_iand hx hb dJ13_bitCount_95d88_59 ?_
  cases hf
  exact W.iret hx hb hr (fun t ht hW => ⟨⟨_, (), rfl, rfl, (ht.trans hHe)⟩, hS.F ht⟩) hS.2.2 dJ13_bitCount_95d88_60
def f_X7_pickCount (c_now_shelves_picked : Int64) : Option (Int32) :=
  bnd1 (f_J13_bitCount_95d88 c_now_shelves_picked) (fun r1 =>
  (some r1))
set_option maxHeartbeats 4000000 in
set_option maxRecDepth 100000 in
theorem k_X7_pickCount (l : Launch) (hl0 : l.stackTraces = false) (D : va_G) (cI cJ cZ cS : ClassId) (B0 : Nat) (H0 : Heap) (a0 a_now a_past a_plan a_picker a_rest a_packed a_now_items a_now_books a_now_terms a_now_shelves a_now_lots a_now_orders a_now_shelves_lot a_now_shelves_pieces a_now_shelves_mark a_now_shelves_byDistance : Nat) (c_acts : Int32) (c_nextSlot : Int32) (c_now_today : Int32) (c_now_products : Int32) (c_now_itemCount : Int32) (c_now_shelves_lanes : Int32) (c_now_shelves_positions : Int32) (c_now_shelves_room : Int32) (c_now_shelves_gap : Int32) (c_now_shelves_places : Int32) (c_now_shelves_picked : Int64) (r9 : Int32)  (hf : f_X7_pickCount c_now_shelves_picked = some r9) : Met l yX7_pickCount (wz yX7_pickCount cX7_pickCount 1 (some .int)) ({ frames := 1, cells := 0, slots := 0, locals := 21 }) (va_Pc [.ref a0] (rp D cI cJ cZ cS B0 [oX7 a0 a_now a_past c_acts c_nextSlot a_plan a_picker a_rest a_packed, oX6 a_now c_now_today c_now_products c_now_itemCount a_now_items a_now_books a_now_terms a_now_shelves a_now_lots a_now_orders, oX5 a_now_shelves c_now_shelves_lanes c_now_shelves_positions c_now_shelves_room c_now_shelves_gap c_now_shelves_places c_now_shelves_picked a_now_shelves_lot a_now_shelves_pieces a_now_shelves_mark a_now_shelves_byDistance] H0)) (va_Qi (fun (r2 : Int32) (_ : Unit) => r2 = r9) (fun _ t => t.heap = H0) (fun q => H0.size ≤ q)) 0 0 (fun q => H0.size ≤ q) := by
  refine Met.ofW (cc := cX7_pickCount) (maxL := 1) (ret := (some .int)) (by decide) rfl ?_
  intro p e s m args below meth c s₁ B hml hv
  obtain ⟨rfl, hH, hP, hK, hB0, hE⟩ := hv
  subst hH
  have hx := B.exec
  have hb := B.bytes
  have hr := B.returns
  have hts := atoms_spec (ws := (wz yX7_pickCount cX7_pickCount 1 (some .int))) B.pre
  have hown : s.vm.findClass RX7 = some m.cls := findClass_of_methodNamed B.named
  have hlocks := B.notSynchronized
  have hAB : ∀ q : Nat, s.heap.size ≤ q → B0 ≤ q := fun q h => Nat.le_trans hB0 h
  have hA : ∀ q : Nat, s.heap.size ≤ q → s.heap.size ≤ q := fun _ h => h
  have hS : va_S (fun q => s.heap.size ≤ q) s.heap s.heap [] := va_S.rf
  have hBn := fun (H : Heap) (locs : List Loc) (h : va_S (fun q => s.heap.size ≤ q) s.heap H locs) => Nat.le_trans hB0 h.1
  have hEn := fun (H : Heap) (locs : List Loc) (h : va_S (fun q => s.heap.size ≤ q) s.heap H locs) => gE_now hE h hAB
  have hl := lv_entry ([.ref a0]) (n := 1) (Nat.le_of_ble_eq_true rfl)
  rw [lg_entry_eq]
  generalize (lg_sl ([.ref a0]) ++ List.replicate (1 - (lg_sl ([.ref a0])).length) Slot.unset).toArray = ls at hl ⊢
  have hl : lv_has ls 1 [(0, .ref a0)] := hl
  obtain ⟨H, hHe⟩ : ∃ H : Heap, H = s.heap := ⟨_, rfl⟩
  have hP : va_P D vwCl [oX7 a0 a_now a_past c_acts c_nextSlot a_plan a_picker a_rest a_packed, oX6 a_now c_now_today c_now_products c_now_itemCount a_now_items a_now_books a_now_terms a_now_shelves a_now_lots a_now_orders, oX5 a_now_shelves c_now_shelves_lanes c_now_shelves_positions c_now_shelves_room c_now_shelves_gap c_now_shelves_places c_now_shelves_picked a_now_shelves_lot a_now_shelves_pieces a_now_shelves_mark a_now_shelves_byDistance] H := by rw [hHe]; exact hP
  have hS : va_S (fun q => s.heap.size ≤ q) s.heap H [] := by rw [hHe]; exact hS
  refine W_heq hHe ?_
  unfold f_X7_pickCount at hf
  refine lv_aload_n hx hb dX7_pickCount_0 rfl (lv_at hl 0 rfl) ?_
  refine va_get (D := D) (ci := 6) (v := .ref a_now) (C := RX7) (T := TX7) (N := 8) hx hb hts (fun w h => mb (iX7 w h)) hown hK hP 0 rfl rfl 0 (by decide) (hts _ (mb tb_270)) (fun _ h9 => h9) rfl dX7_pickCount_1 ?_
  refine va_get (D := D) (ci := 5) (v := .ref a_now_shelves) (C := RX6) (T := TX6) (N := 9) hx hb hts (fun w h => mb (iX6 w h)) hown hK hP 1 rfl rfl 6 (by decide) (hts _ (mb tb_169)) (fun _ h9 => h9) rfl dX7_pickCount_4 ?_
  refine va_get (D := D) (ci := 4) (v := .long c_now_shelves_picked) (C := RX5) (T := TX5) (N := 10) hx hb hts (fun w h => mb (iX5 w h)) hown hK hP 2 rfl rfl 5 (by decide) (hts _ (mb tb_51)) (fun _ h9 => h9) rfl dX7_pickCount_7 ?_
  obtain ⟨r1, hc2, hf⟩ := ob1 hf
  refine ro_calli (r := r1) (va_runS (As := [.long c_now_shelves_picked]) (rest := []) ⟨hx, hb, hml, hown, hts⟩ (k_J13_bitCount_95d88 l hl0 D cI cJ cZ cS B0 H c_now_shelves_picked r1 hc2) (va_cwS 1 hts (gS tb_387 tb_388 tb_19 tb_389) rfl rfl rfl (by decide +kernel) ⟨Nat.le_of_ble_eq_true rfl, Nat.le_of_ble_eq_true rfl⟩) ⟨rp_blind, rp_pre (hP.sub [] rfl) hK (hBn _ _ hS) (hEn _ _ hS)⟩ rfl rfl hl.1 rfl (lv_room (Nat.le_of_ble_eq_true rfl)) dX7_pickCount_10 ⟨Nat.le_of_ble_eq_true rfl, Nat.le_of_ble_eq_true rfl⟩) ?_
  cases hf
  exact W.iret hx hb hr (fun t ht hW => ⟨⟨_, (), rfl, rfl, (ht.trans hHe)⟩, hS.F ht⟩) hS.2.2 dX7_pickCount_13
def f_X7_needState (v0 : Int32) : Option ((Except String Unit)) :=
  (if v0 = 0 then some (.error "java/lang/IllegalStateException")
  else some (.ok ()))
set_option maxHeartbeats 4000000 in
set_option maxRecDepth 100000 in
theorem k_X7_needState (l : Launch) (hl0 : l.stackTraces = false) (D : va_G) (cI cJ cZ cS : ClassId) (B0 : Nat) (H0 : Heap) (v0 : Int32) (r9 : Except String Unit)  (hf : f_X7_needState v0 = some r9) : vx_Met l yX7_needState (wz yX7_needState cX7_needState 1 none) ({ frames := 6, cells := 1, slots := 6, locals := 90 }) (va_Pc [.int v0] (rp D cI cJ cZ cS B0 [] H0)) (va_Qv (fun (_ : Unit) => r9 = .ok ()) (fun _ t => t.heap = H0) (fun q => H0.size ≤ q)) (vx_X (fun (_ : Unit) => True) (fun E _ _ => r9 = .error E) (fun q => H0.size ≤ q)) 1 6 (fun q => H0.size ≤ q) := by
  refine vx_ofW (cc := cX7_needState) (maxL := 1) (ret := none) (by decide +kernel) rfl ?_
  intro p e s m args below meth c s₁ B hml hno hv
  obtain ⟨rfl, hH, hP, hK, hB0, hE⟩ := hv
  subst hH
  have hx := B.exec
  have hb := B.bytes
  have hr := B.returns
  have hts := atoms_spec (ws := (wz yX7_needState cX7_needState 1 none)) B.pre
  have hown : s.vm.findClass RX7 = some m.cls := findClass_of_methodNamed B.named
  have hlocks := B.notSynchronized
  have hAB : ∀ q : Nat, s.heap.size ≤ q → B0 ≤ q := fun q h => Nat.le_trans hB0 h
  have hA : ∀ q : Nat, s.heap.size ≤ q → s.heap.size ≤ q := fun _ h => h
  have hS : va_S (fun q => s.heap.size ≤ q) s.heap s.heap [] := va_S.rf
  have hBn := fun (H : Heap) (locs : List Loc) (h : va_S (fun q => s.heap.size ≤ q) s.heap H locs) => Nat.le_trans hB0 h.1
  have hEn := fun (H : Heap) (locs : List Loc) (h : va_S (fun q => s.heap.size ≤ q) s.heap H locs) => gE_now hE h hAB
  have hl := lv_entry ([.int v0]) (n := 1) (Nat.le_of_ble_eq_true rfl)
  rw [lg_entry_eq]
  generalize (lg_sl ([.int v0]) ++ List.replicate (1 - (lg_sl ([.int v0])).length) Slot.unset).toArray = ls at hl ⊢
  have hl : lv_has ls 1 [(0, .int v0)] := hl
  obtain ⟨H, hHe⟩ : ∃ H : Heap, H = s.heap := ⟨_, rfl⟩
  have hP : va_P D vwCl [] H := by rw [hHe]; exact hP
  have hS : va_S (fun q => s.heap.size ≤ q) s.heap H [] := by rw [hHe]; exact hS
  refine W_heq hHe ?_
  unfold f_X7_needState at hf
  refine lv_iload_n hx hb dX7_needState_0 rfl (lv_at hl 0 rfl) ?_
  refine lv_if_ne (tgt := 15) hx hb dX7_needState_1 (by decide) (fun h1 => ?_) (fun h1 => ?_)
  · have hf := ineg h1 hf
    cases hf
    refine vx_ret ?_
    refine W.widen (k := 1) (n := 6) (Nat.le_of_ble_eq_true rfl) (Nat.le_of_ble_eq_true rfl) ?_
    exact W.vret hx hb hr (fun t ht hW => ⟨⟨(), rfl, rfl, (ht.trans hHe)⟩, hS.F ht⟩) hS.2.2 dX7_needState_15
  · have hf := ipos h1 hf
    cases hf
    exact thrW_IS (is := 333) (text := "not possible now") hx hb hl0 hown hts hE hAB (by decide) hS hl.1 dX7_needState_4 dX7_needState_7 dX7_needState_8 dX7_needState_11 dX7_needState_14 hml hno (Nat.le_of_ble_eq_true rfl) (Nat.le_of_ble_eq_true rfl) (Nat.le_of_ble_eq_true rfl) (Nat.le_of_ble_eq_true rfl) hlocks (fun t hal hz9 hk9 => ⟨(), trivial, rfl, va_S_F hS hz9 hk9⟩) hS.2.2 (Nat.le_of_ble_eq_true rfl) (Nat.le_of_ble_eq_true rfl)
def f_X7_pickLength_J68 (t0 : Int32) (c_now_shelves_lanes : Int32) (c_now_shelves_positions : Int32) (c_now_shelves_gap : Int32) (c_now_shelves_picked : Int64) (c_picker_deepest : Int32) (c_picker_shallowest : Int32) (c_picker_widest : Int32) (c_picker_least : Nat → Int32) (c_picker_next : Nat → Int32) : Option ((Except String Int32) × Int32 × Int32 × Int32 × (Nat → Int32) × (Nat → Int32)) :=
  bnd1 (f_X7_needState t0) (fun r9 => mx r9 (fun E11 => some (.error E11, c_picker_deepest, c_picker_shallowest, c_picker_widest, c_picker_least, c_picker_next)) (fun _ =>
  (bnd6 (f_X3_least c_picker_deepest c_picker_shallowest c_picker_widest c_picker_least c_picker_next c_now_shelves_lanes c_now_shelves_positions c_now_shelves_gap c_now_shelves_picked) (fun r12 o14 o15 o16 o17 o18 =>
  (some (.ok r12, o14, o15, o16, o17, o18))))))
def f_X7_pickLength (v1 : Int32) (c_now_shelves_lanes : Int32) (c_now_shelves_positions : Int32) (c_now_shelves_gap : Int32) (c_now_shelves_picked : Int64) (c_picker_deepest : Int32) (c_picker_shallowest : Int32) (c_picker_widest : Int32) (c_picker_least : Nat → Int32) (c_picker_next : Nat → Int32) : Option ((Except String Int32) × Int32 × Int32 × Int32 × (Nat → Int32) × (Nat → Int32)) :=
  bnd1 (f_X7_needRange v1 0 2) (fun r1 => mx r1 (fun E3 => some (.error E3, c_picker_deepest, c_picker_shallowest, c_picker_widest, c_picker_least, c_picker_next)) (fun _ =>
  ((if v1 = 0 then bnd4 (f_X3_through c_picker_deepest c_picker_shallowest c_picker_widest c_now_shelves_lanes c_now_shelves_positions c_now_shelves_gap c_now_shelves_picked) (fun r24 o26 o27 o28 =>
  (some (.ok r24, o26, o27, o28, c_picker_least, c_picker_next)))
  else (if v1 = 1 then bnd4 (f_X3_back c_picker_deepest c_picker_shallowest c_picker_widest c_now_shelves_lanes c_now_shelves_positions c_now_shelves_gap c_now_shelves_picked) (fun r19 o21 o22 o23 =>
  (some (.ok r19, o21, o22, o23, c_picker_least, c_picker_next)))
  else bnd1 (f_J13_bitCount_95d88 c_now_shelves_picked) (fun r6 =>
  ((if 10 < r6 then f_X7_pickLength_J68 0 c_now_shelves_lanes c_now_shelves_positions c_now_shelves_gap c_now_shelves_picked c_picker_deepest c_picker_shallowest c_picker_widest c_picker_least c_picker_next
  else f_X7_pickLength_J68 1 c_now_shelves_lanes c_now_shelves_positions c_now_shelves_gap c_now_shelves_picked c_picker_deepest c_picker_shallowest c_picker_widest c_picker_least c_picker_next))))))))
set_option maxHeartbeats 4000000 in
set_option maxRecDepth 100000 in
theorem k_X7_pickLength (l : Launch) (hl0 : l.stackTraces = false) (D : va_G) (cI cJ cZ cS : ClassId) (B0 : Nat) (sz : Nat) (a0 a_now a_past a_plan a_picker a_rest a_packed a_now_items a_now_books a_now_terms a_now_shelves a_now_lots a_now_orders a_now_shelves_lot a_now_shelves_pieces a_now_shelves_mark a_now_shelves_byDistance a_picker_least a_picker_next : Nat) (c_acts : Int32) (c_nextSlot : Int32) (c_now_today : Int32) (c_now_products : Int32) (c_now_itemCount : Int32) (c_now_shelves_lanes : Int32) (c_now_shelves_positions : Int32) (c_now_shelves_room : Int32) (c_now_shelves_gap : Int32) (c_now_shelves_places : Int32) (c_now_shelves_picked : Int64) (c_picker_deepest : Int32) (c_picker_shallowest : Int32) (c_picker_widest : Int32) (c_picker_least : Nat → Int32) (c_picker_next : Nat → Int32) (v1 : Int32) (r9 : Except String Int32) (oc_picker_deepest : Int32) (oc_picker_shallowest : Int32) (oc_picker_widest : Int32) (oc_picker_least : Nat → Int32) (oc_picker_next : Nat → Int32)  (hf : f_X7_pickLength v1 c_now_shelves_lanes c_now_shelves_positions c_now_shelves_gap c_now_shelves_picked c_picker_deepest c_picker_shallowest c_picker_widest c_picker_least c_picker_next = some (r9, oc_picker_deepest, oc_picker_shallowest, oc_picker_widest, oc_picker_least, oc_picker_next)) : vx_Met l yX7_pickLength (wz yX7_pickLength cX7_pickLength 2 (some .int)) ({ frames := 7, cells := 1, slots := 6, locals := 113 }) (va_Pc [.ref a0, .int v1] (wp D cI cJ cZ cS B0 [oX7 a0 a_now a_past c_acts c_nextSlot a_plan a_picker a_rest a_packed, oX6 a_now c_now_today c_now_products c_now_itemCount a_now_items a_now_books a_now_terms a_now_shelves a_now_lots a_now_orders, oX5 a_now_shelves c_now_shelves_lanes c_now_shelves_positions c_now_shelves_room c_now_shelves_gap c_now_shelves_places c_now_shelves_picked a_now_shelves_lot a_now_shelves_pieces a_now_shelves_mark a_now_shelves_byDistance, oX3 a_picker a_picker_least a_picker_next c_picker_deepest c_picker_shallowest c_picker_widest, rI cI a_picker_least 5 c_picker_least, rI cI a_picker_next 5 c_picker_next] sz)) (va_Qi (fun (r2 : Int32) (_ : Unit) => r9 = .ok r2) (fun _ t => va_P D vwCl [oX7 a0 a_now a_past c_acts c_nextSlot a_plan a_picker a_rest a_packed, oX6 a_now c_now_today c_now_products c_now_itemCount a_now_items a_now_books a_now_terms a_now_shelves a_now_lots a_now_orders, oX5 a_now_shelves c_now_shelves_lanes c_now_shelves_positions c_now_shelves_room c_now_shelves_gap c_now_shelves_places c_now_shelves_picked a_now_shelves_lot a_now_shelves_pieces a_now_shelves_mark a_now_shelves_byDistance, oX3 a_picker a_picker_least a_picker_next oc_picker_deepest oc_picker_shallowest oc_picker_widest, rI cI a_picker_least 5 oc_picker_least, rI cI a_picker_next 5 oc_picker_next] t.heap) (va_A [oX7 a0 a_now a_past c_acts c_nextSlot a_plan a_picker a_rest a_packed, oX6 a_now c_now_today c_now_products c_now_itemCount a_now_items a_now_books a_now_terms a_now_shelves a_now_lots a_now_orders, oX5 a_now_shelves c_now_shelves_lanes c_now_shelves_positions c_now_shelves_room c_now_shelves_gap c_now_shelves_places c_now_shelves_picked a_now_shelves_lot a_now_shelves_pieces a_now_shelves_mark a_now_shelves_byDistance, oX3 a_picker a_picker_least a_picker_next c_picker_deepest c_picker_shallowest c_picker_widest, rI cI a_picker_least 5 c_picker_least, rI cI a_picker_next 5 c_picker_next] sz)) (vx_X (fun (_ : Unit) => True) (fun E _ t => r9 = .error E ∧ va_P D vwCl [oX7 a0 a_now a_past c_acts c_nextSlot a_plan a_picker a_rest a_packed, oX6 a_now c_now_today c_now_products c_now_itemCount a_now_items a_now_books a_now_terms a_now_shelves a_now_lots a_now_orders, oX5 a_now_shelves c_now_shelves_lanes c_now_shelves_positions c_now_shelves_room c_now_shelves_gap c_now_shelves_places c_now_shelves_picked a_now_shelves_lot a_now_shelves_pieces a_now_shelves_mark a_now_shelves_byDistance, oX3 a_picker a_picker_least a_picker_next oc_picker_deepest oc_picker_shallowest oc_picker_widest, rI cI a_picker_least 5 oc_picker_least, rI cI a_picker_next 5 oc_picker_next] t.heap) (va_A [oX7 a0 a_now a_past c_acts c_nextSlot a_plan a_picker a_rest a_packed, oX6 a_now c_now_today c_now_products c_now_itemCount a_now_items a_now_books a_now_terms a_now_shelves a_now_lots a_now_orders, oX5 a_now_shelves c_now_shelves_lanes c_now_shelves_positions c_now_shelves_room c_now_shelves_gap c_now_shelves_places c_now_shelves_picked a_now_shelves_lot a_now_shelves_pieces a_now_shelves_mark a_now_shelves_byDistance, oX3 a_picker a_picker_least a_picker_next c_picker_deepest c_picker_shallowest c_picker_widest, rI cI a_picker_least 5 c_picker_least, rI cI a_picker_next 5 c_picker_next] sz)) 1 6 (va_A [oX7 a0 a_now a_past c_acts c_nextSlot a_plan a_picker a_rest a_packed, oX6 a_now c_now_today c_now_products c_now_itemCount a_now_items a_now_books a_now_terms a_now_shelves a_now_lots a_now_orders, oX5 a_now_shelves c_now_shelves_lanes c_now_shelves_positions c_now_shelves_room c_now_shelves_gap c_now_shelves_places c_now_shelves_picked a_now_shelves_lot a_now_shelves_pieces a_now_shelves_mark a_now_shelves_byDistance, oX3 a_picker a_picker_least a_picker_next c_picker_deepest c_picker_shallowest c_picker_widest, rI cI a_picker_least 5 c_picker_least, rI cI a_picker_next 5 c_picker_next] sz) := by
  refine vx_ofW (cc := cX7_pickLength) (maxL := 2) (ret := (some .int)) (by decide +kernel) rfl ?_
  intro p e s m args below meth c s₁ B hml hno hv
  obtain ⟨rfl, hsz, hP, hK, hD0, hB0, hE⟩ := hv
  subst hsz
  have hx := B.exec
  have hb := B.bytes
  have hr := B.returns
  have hts := atoms_spec (ws := (wz yX7_pickLength cX7_pickLength 2 (some .int))) B.pre
  have hown : s.vm.findClass RX7 = some m.cls := findClass_of_methodNamed B.named
  have hlocks := B.notSynchronized
  have hD := hD0.self (sz := s.heap.size)
  have hAB : ∀ q : Nat, va_A [oX7 a0 a_now a_past c_acts c_nextSlot a_plan a_picker a_rest a_packed, oX6 a_now c_now_today c_now_products c_now_itemCount a_now_items a_now_books a_now_terms a_now_shelves a_now_lots a_now_orders, oX5 a_now_shelves c_now_shelves_lanes c_now_shelves_positions c_now_shelves_room c_now_shelves_gap c_now_shelves_places c_now_shelves_picked a_now_shelves_lot a_now_shelves_pieces a_now_shelves_mark a_now_shelves_byDistance, oX3 a_picker a_picker_least a_picker_next c_picker_deepest c_picker_shallowest c_picker_widest, rI cI a_picker_least 5 c_picker_least, rI cI a_picker_next 5 c_picker_next] s.heap.size q → B0 ≤ q := va_A_B hD0 hB0
  generalize hAe : va_A [oX7 a0 a_now a_past c_acts c_nextSlot a_plan a_picker a_rest a_packed, oX6 a_now c_now_today c_now_products c_now_itemCount a_now_items a_now_books a_now_terms a_now_shelves a_now_lots a_now_orders, oX5 a_now_shelves c_now_shelves_lanes c_now_shelves_positions c_now_shelves_room c_now_shelves_gap c_now_shelves_places c_now_shelves_picked a_now_shelves_lot a_now_shelves_pieces a_now_shelves_mark a_now_shelves_byDistance, oX3 a_picker a_picker_least a_picker_next c_picker_deepest c_picker_shallowest c_picker_widest, rI cI a_picker_least 5 c_picker_least, rI cI a_picker_next 5 c_picker_next] s.heap.size = A at hD hAB ⊢
  have hA : ∀ q : Nat, s.heap.size ≤ q → A q := fun q h => by rw [← hAe]; exact Or.inr h
  have hFa := hA
  have hS : va_S A s.heap s.heap [] := va_S.rf
  have hBn := fun (H : Heap) (locs : List Loc) (h : va_S A s.heap H locs) => Nat.le_trans hB0 h.1
  have hEn := fun (H : Heap) (locs : List Loc) (h : va_S A s.heap H locs) => gE_now hE h hAB
  have hl := lv_entry ([.ref a0, .int v1]) (n := 2) (Nat.le_of_ble_eq_true rfl)
  rw [lg_entry_eq]
  generalize (lg_sl ([.ref a0, .int v1]) ++ List.replicate (2 - (lg_sl ([.ref a0, .int v1])).length) Slot.unset).toArray = ls at hl ⊢
  have hl : lv_has ls 2 [(0, .ref a0), (1, .int v1)] := hl
  obtain ⟨H, hHe⟩ : ∃ H : Heap, H = s.heap := ⟨_, rfl⟩
  have hP : va_P D vwCl [oX7 a0 a_now a_past c_acts c_nextSlot a_plan a_picker a_rest a_packed, oX6 a_now c_now_today c_now_products c_now_itemCount a_now_items a_now_books a_now_terms a_now_shelves a_now_lots a_now_orders, oX5 a_now_shelves c_now_shelves_lanes c_now_shelves_positions c_now_shelves_room c_now_shelves_gap c_now_shelves_places c_now_shelves_picked a_now_shelves_lot a_now_shelves_pieces a_now_shelves_mark a_now_shelves_byDistance, oX3 a_picker a_picker_least a_picker_next c_picker_deepest c_picker_shallowest c_picker_widest, rI cI a_picker_least 5 c_picker_least, rI cI a_picker_next 5 c_picker_next] H := by rw [hHe]; exact hP
  have hS : va_S A s.heap H [] := by rw [hHe]; exact hS
  refine W_heq hHe ?_
  unfold f_X7_pickLength at hf
  refine gen_goW (fun WW hWW => ?_)
  have hJ68 : ∀ (t0 : Int32) (c_picker_deepest : Int32) (c_picker_shallowest : Int32) (c_picker_widest : Int32) (c_picker_least : Nat → Int32) (c_picker_next : Nat → Int32), f_X7_pickLength_J68 t0 c_now_shelves_lanes c_now_shelves_positions c_now_shelves_gap c_now_shelves_picked c_picker_deepest c_picker_shallowest c_picker_widest c_picker_least c_picker_next = some (r9, oc_picker_deepest, oc_picker_shallowest, oc_picker_widest, oc_picker_least, oc_picker_next) → ∀ (H : Heap) (locs : List Loc) (ls : Array Slot), va_P D vwCl [oX7 a0 a_now a_past c_acts c_nextSlot a_plan a_picker a_rest a_packed, oX6 a_now c_now_today c_now_products c_now_itemCount a_now_items a_now_books a_now_terms a_now_shelves a_now_lots a_now_orders, oX5 a_now_shelves c_now_shelves_lanes c_now_shelves_positions c_now_shelves_room c_now_shelves_gap c_now_shelves_places c_now_shelves_picked a_now_shelves_lot a_now_shelves_pieces a_now_shelves_mark a_now_shelves_byDistance, oX3 a_picker a_picker_least a_picker_next c_picker_deepest c_picker_shallowest c_picker_widest, rI cI a_picker_least 5 c_picker_least, rI cI a_picker_next 5 c_picker_next] H → va_D A [oX7 a0 a_now a_past c_acts c_nextSlot a_plan a_picker a_rest a_packed, oX6 a_now c_now_today c_now_products c_now_itemCount a_now_items a_now_books a_now_terms a_now_shelves a_now_lots a_now_orders, oX5 a_now_shelves c_now_shelves_lanes c_now_shelves_positions c_now_shelves_room c_now_shelves_gap c_now_shelves_places c_now_shelves_picked a_now_shelves_lot a_now_shelves_pieces a_now_shelves_mark a_now_shelves_byDistance, oX3 a_picker a_picker_least a_picker_next c_picker_deepest c_picker_shallowest c_picker_widest, rI cI a_picker_least 5 c_picker_least, rI cI a_picker_next 5 c_picker_next] → va_S A s.heap H locs → lv_has ls 2 [(0, .ref a0)] → WW H locs 0 0 (F0 m 68 ls [.int t0]) := by
    intro t0 c_picker_deepest c_picker_shallowest c_picker_widest c_picker_least c_picker_next hf H locs ls hP hD hS hl
    unfold f_X7_pickLength_J68 at hf
    refine (hWW _ _ _ _ _).mpr ?_
    obtain ⟨r9, hc10, hf⟩ := ob1 hf
    refine rx_callv (r9 := r9) (vx_runS (As := [.int t0]) (rest := []) ⟨hx, hb, hml, hown, hts⟩ (k_X7_needState l hl0 D cI cJ cZ cS B0 H t0 r9 hc10) (va_cwS 1 hts (gS tb_580 tb_581 tb_1 tb_582) rfl rfl rfl (by decide +kernel) ⟨Nat.le_of_ble_eq_true rfl, Nat.le_of_ble_eq_true rfl⟩) ⟨rp_blind, rp_pre (hP.sub [] rfl) hK (hBn _ _ hS) (hEn _ _ hS)⟩ rfl rfl hl.1 rfl (lv_room (Nat.le_of_ble_eq_true rfl)) dX7_pickLength_68 ⟨Nat.le_of_ble_eq_true rfl, Nat.le_of_ble_eq_true rfl⟩) hS hA (fun E11 ce q9 H1 locs1 hE9 hz9 hk9 hS hq9 hv9 hcl9 => ?_) (fun hr9 => ?_)
    · subst hE9
      have hf := mx_e hf
      cases hf
      exact vx_out (fun x hx => (hno x hx).elim) hlocks hq9 hv9 hcl9 (fun t ht hal => ⟨(), trivial, ⟨rfl, (by show va_P D vwCl _ t.heap; rw [ht]; exact va_Pk hP hk9)⟩, hS.F ht⟩) hS.2.2 (Nat.le_of_ble_eq_true rfl) (Nat.le_of_ble_eq_true rfl)
    · subst hr9
      have hf := mx_o hf
      refine lv_aload_n hx hb dX7_pickLength_71 rfl (lv_at hl 0 rfl) ?_
      refine va_get (D := D) (ci := 6) (v := .ref a_picker) (C := RX7) (T := TX7) (N := 8) hx hb hts (fun w h => mb (iX7 w h)) hown hK hP 0 rfl rfl 5 (by decide) (hts _ (mb tb_275)) (fun _ h9 => h9) rfl dX7_pickLength_72 ?_
      refine lv_aload_n hx hb dX7_pickLength_75 rfl (lv_at hl 0 rfl) ?_
      refine va_get (D := D) (ci := 6) (v := .ref a_now) (C := RX7) (T := TX7) (N := 8) hx hb hts (fun w h => mb (iX7 w h)) hown hK hP 0 rfl rfl 0 (by decide) (hts _ (mb tb_270)) (fun _ h9 => h9) rfl dX7_pickLength_76 ?_
      refine va_get (D := D) (ci := 5) (v := .ref a_now_shelves) (C := RX6) (T := TX6) (N := 9) hx hb hts (fun w h => mb (iX6 w h)) hown hK hP 1 rfl rfl 6 (by decide) (hts _ (mb tb_169)) (fun _ h9 => h9) rfl dX7_pickLength_79 ?_
      obtain ⟨r12, o14, o15, o16, o17, o18, hc13, hf⟩ := ob6 hf
      refine rw_calli (r := r12) (va_runV (As := [.ref a_now_shelves]) (rest := []) ⟨hx, hb, hml, hown, hts⟩ (k_X3_least l hl0 D cI cJ cZ cS B0 H.size a_picker a_picker_least a_picker_next a_now_shelves a_now_shelves_lot a_now_shelves_pieces a_now_shelves_mark a_now_shelves_byDistance c_picker_deepest c_picker_shallowest c_picker_widest c_picker_least c_picker_next c_now_shelves_lanes c_now_shelves_positions c_now_shelves_room c_now_shelves_gap c_now_shelves_places c_now_shelves_picked r12 o14 o15 o16 o17 o18 hc13) (cwV 1 hts (gV tb_947 tb_948 tb_949 tb_7 tb_950) rfl rfl rfl (by decide +kernel) ⟨Nat.le_of_ble_eq_true rfl, Nat.le_of_ble_eq_true rfl⟩) ⟨wp_blind, va_recv hK hP (ci := 2) (q0 := 3) rfl rfl, wp_pre (hP.sub [3, 4, 5, 2] rfl) hK (va_D.sub (hD.weaken (fun _ _ _ h9 => hAB _ h9)) [3, 4, 5, 2] rfl rfl) (hBn _ _ hS) (hEn _ _ hS)⟩ rfl rfl hl.1 rfl (lv_room (Nat.le_of_ble_eq_true rfl)) dX7_pickLength_82 ⟨Nat.le_of_ble_eq_true rfl, Nat.le_of_ble_eq_true rfl⟩) hP hD hS hA [oX7 a0 a_now a_past c_acts c_nextSlot a_plan a_picker a_rest a_packed, oX6 a_now c_now_today c_now_products c_now_itemCount a_now_items a_now_books a_now_terms a_now_shelves a_now_lots a_now_orders, oX5 a_now_shelves c_now_shelves_lanes c_now_shelves_positions c_now_shelves_room c_now_shelves_gap c_now_shelves_places c_now_shelves_picked a_now_shelves_lot a_now_shelves_pieces a_now_shelves_mark a_now_shelves_byDistance, oX3 a_picker a_picker_least a_picker_next o14 o15 o16, rI cI a_picker_least 5 o17, rI cI a_picker_next 5 o18] 6 [3, 4, 5, 2] [0, 1] rfl rfl rfl rfl (by decide +kernel) rfl (fun H locs hP hD hS => ?_)
      cases hf
      refine vx_ret ?_
      refine W.widen (k := 1) (n := 6) (Nat.le_of_ble_eq_true rfl) (Nat.le_of_ble_eq_true rfl) ?_
      exact W.iret hx hb hr (fun t ht hW => ⟨⟨_, (), rfl, rfl, (by show va_P D vwCl _ t.heap; rw [ht]; exact hP)⟩, hS.F ht⟩) hS.2.2 dX7_pickLength_85
  refine (hWW _ _ _ _ _).mpr ?_
  refine lv_iload_n hx hb dX7_pickLength_0 rfl (lv_at hl 1 rfl) ?_
  refine lv_iconst (v := 0) hx hb dX7_pickLength_1 (by decide) ?_
  refine lv_iconst (v := 2) hx hb dX7_pickLength_2 (by decide) ?_
  obtain ⟨r1, hc2, hf⟩ := ob1 hf
  refine rx_callv (r9 := r1) (vx_runS (As := [.int v1, .int 0, .int 2]) (rest := []) ⟨hx, hb, hml, hown, hts⟩ (k_X7_needRange l hl0 D cI cJ cZ cS B0 H v1 0 2 r1 hc2) (va_cwS 3 hts (gS tb_492 tb_493 tb_1 tb_494) rfl rfl rfl (by decide +kernel) ⟨Nat.le_of_ble_eq_true rfl, Nat.le_of_ble_eq_true rfl⟩) ⟨rp_blind, rp_pre (hP.sub [] rfl) hK (hBn _ _ hS) (hEn _ _ hS)⟩ rfl rfl hl.1 rfl (lv_room (Nat.le_of_ble_eq_true rfl)) dX7_pickLength_3 ⟨Nat.le_of_ble_eq_true rfl, Nat.le_of_ble_eq_true rfl⟩) hS hA (fun E3 ce q9 H1 locs1 hE9 hz9 hk9 hS hq9 hv9 hcl9 => ?_) (fun hr9 => ?_)
  · subst hE9
    have hf := mx_e hf
    cases hf
    exact vx_out (fun x hx => (hno x hx).elim) hlocks hq9 hv9 hcl9 (fun t ht hal => ⟨(), trivial, ⟨rfl, (by show va_P D vwCl _ t.heap; rw [ht]; exact va_Pk hP hk9)⟩, hS.F ht⟩) hS.2.2 (Nat.le_of_ble_eq_true rfl) (Nat.le_of_ble_eq_true rfl)
  · subst hr9
    have hf := mx_o hf
    refine lv_iload_n hx hb dX7_pickLength_6 rfl (lv_at hl 1 rfl) ?_
    refine lv_if_ne (tgt := 25) hx hb dX7_pickLength_7 (by decide) (fun h4 => ?_) (fun h4 => ?_)
    · have hf := ineg h4 hf
      refine lv_iload_n hx hb dX7_pickLength_25 rfl (lv_at hl 1 rfl) ?_
      refine lv_iconst (v := 1) hx hb dX7_pickLength_26 (by decide) ?_
      refine lv_icmp_ne (tgt := 45) hx hb dX7_pickLength_27 (by decide) (fun h5 => ?_) (fun h5 => ?_)
      · have hf := ineg h5 hf
        refine lv_aload_n hx hb dX7_pickLength_45 rfl (lv_at hl 0 rfl) ?_
        refine va_get (D := D) (ci := 6) (v := .ref a_now) (C := RX7) (T := TX7) (N := 8) hx hb hts (fun w h => mb (iX7 w h)) hown hK hP 0 rfl rfl 0 (by decide) (hts _ (mb tb_270)) (fun _ h9 => h9) rfl dX7_pickLength_46 ?_
        refine va_get (D := D) (ci := 5) (v := .ref a_now_shelves) (C := RX6) (T := TX6) (N := 9) hx hb hts (fun w h => mb (iX6 w h)) hown hK hP 1 rfl rfl 6 (by decide) (hts _ (mb tb_169)) (fun _ h9 => h9) rfl dX7_pickLength_49 ?_
        refine va_get (D := D) (ci := 4) (v := .long c_now_shelves_picked) (C := RX5) (T := TX5) (N := 10) hx hb hts (fun w h => mb (iX5 w h)) hown hK hP 2 rfl rfl 5 (by decide) (hts _ (mb tb_51)) (fun _ h9 => h9) rfl dX7_pickLength_52 ?_
        obtain ⟨r6, hc7, hf⟩ := ob1 hf
        refine ro_calli (r := r6) (va_runS (As := [.long c_now_shelves_picked]) (rest := []) ⟨hx, hb, hml, hown, hts⟩ (k_J13_bitCount_95d88 l hl0 D cI cJ cZ cS B0 H c_now_shelves_picked r6 hc7) (va_cwS 1 hts (gS tb_387 tb_388 tb_19 tb_389) rfl rfl rfl (by decide +kernel) ⟨Nat.le_of_ble_eq_true rfl, Nat.le_of_ble_eq_true rfl⟩) ⟨rp_blind, rp_pre (hP.sub [] rfl) hK (hBn _ _ hS) (hEn _ _ hS)⟩ rfl rfl hl.1 rfl (lv_room (Nat.le_of_ble_eq_true rfl)) dX7_pickLength_55 ⟨Nat.le_of_ble_eq_true rfl, Nat.le_of_ble_eq_true rfl⟩) ?_
        refine lv_bipush (v := 10) hx hb dX7_pickLength_58 (by decide) ?_
        refine lv_icmp_gt (tgt := 67) hx hb dX7_pickLength_60 (by decide) (fun h8 => ?_) (fun h8 => ?_)
        · have hf := ipos h8 hf
          refine lv_iconst (v := 0) hx hb dX7_pickLength_67 (by decide) ?_
          exact (hWW _ _ _ _ _).mp (hJ68 _ _ _ _ _ _ hf _ _ ls hP hD hS (lv_sub hl [0] rfl))
        · have hf := ineg h8 hf
          refine lv_iconst (v := 1) hx hb dX7_pickLength_63 (by decide) ?_
          refine lv_goto (tgt := 68) hx hb dX7_pickLength_64 (by decide) ?_
          exact (hWW _ _ _ _ _).mp (hJ68 _ _ _ _ _ _ hf _ _ ls hP hD hS (lv_sub hl [0] rfl))
      · have hf := ipos h5 hf
        refine lv_aload_n hx hb dX7_pickLength_30 rfl (lv_at hl 0 rfl) ?_
        refine va_get (D := D) (ci := 6) (v := .ref a_picker) (C := RX7) (T := TX7) (N := 8) hx hb hts (fun w h => mb (iX7 w h)) hown hK hP 0 rfl rfl 5 (by decide) (hts _ (mb tb_275)) (fun _ h9 => h9) rfl dX7_pickLength_31 ?_
        refine lv_aload_n hx hb dX7_pickLength_34 rfl (lv_at hl 0 rfl) ?_
        refine va_get (D := D) (ci := 6) (v := .ref a_now) (C := RX7) (T := TX7) (N := 8) hx hb hts (fun w h => mb (iX7 w h)) hown hK hP 0 rfl rfl 0 (by decide) (hts _ (mb tb_270)) (fun _ h9 => h9) rfl dX7_pickLength_35 ?_
        refine va_get (D := D) (ci := 5) (v := .ref a_now_shelves) (C := RX6) (T := TX6) (N := 9) hx hb hts (fun w h => mb (iX6 w h)) hown hK hP 1 rfl rfl 6 (by decide) (hts _ (mb tb_169)) (fun _ h9 => h9) rfl dX7_pickLength_38 ?_
        obtain ⟨r19, o21, o22, o23, hc20, hf⟩ := ob4 hf
        refine rw_calli (r := r19) (va_runV (As := [.ref a_now_shelves]) (rest := []) ⟨hx, hb, hml, hown, hts⟩ (k_X3_back l hl0 D cI cJ cZ cS B0 H.size a_picker a_picker_least a_picker_next a_now_shelves a_now_shelves_lot a_now_shelves_pieces a_now_shelves_mark a_now_shelves_byDistance c_picker_deepest c_picker_shallowest c_picker_widest c_now_shelves_lanes c_now_shelves_positions c_now_shelves_room c_now_shelves_gap c_now_shelves_places c_now_shelves_picked r19 o21 o22 o23 hc20) (cwV 1 hts (gV tb_943 tb_944 tb_945 tb_7 tb_946) rfl rfl rfl (by decide +kernel) ⟨Nat.le_of_ble_eq_true rfl, Nat.le_of_ble_eq_true rfl⟩) ⟨wp_blind, va_recv hK hP (ci := 2) (q0 := 3) rfl rfl, wp_pre (hP.sub [3, 2] rfl) hK (va_D.sub (hD.weaken (fun _ _ _ h9 => hAB _ h9)) [3, 2] rfl rfl) (hBn _ _ hS) (hEn _ _ hS)⟩ rfl rfl hl.1 rfl (lv_room (Nat.le_of_ble_eq_true rfl)) dX7_pickLength_41 ⟨Nat.le_of_ble_eq_true rfl, Nat.le_of_ble_eq_true rfl⟩) hP hD hS hA [oX7 a0 a_now a_past c_acts c_nextSlot a_plan a_picker a_rest a_packed, oX6 a_now c_now_today c_now_products c_now_itemCount a_now_items a_now_books a_now_terms a_now_shelves a_now_lots a_now_orders, oX5 a_now_shelves c_now_shelves_lanes c_now_shelves_positions c_now_shelves_room c_now_shelves_gap c_now_shelves_places c_now_shelves_picked a_now_shelves_lot a_now_shelves_pieces a_now_shelves_mark a_now_shelves_byDistance, oX3 a_picker a_picker_least a_picker_next o21 o22 o23, rI cI a_picker_least 5 c_picker_least, rI cI a_picker_next 5 c_picker_next] 6 [3, 2] [0, 1, 4, 5] rfl rfl rfl rfl (by decide +kernel) rfl (fun H locs hP hD hS => ?_)
        cases hf
        refine vx_ret ?_
        refine W.widen (k := 1) (n := 6) (Nat.le_of_ble_eq_true rfl) (Nat.le_of_ble_eq_true rfl) ?_
        exact W.iret hx hb hr (fun t ht hW => ⟨⟨_, (), rfl, rfl, (by show va_P D vwCl _ t.heap; rw [ht]; exact hP)⟩, hS.F ht⟩) hS.2.2 dX7_pickLength_44
    · have hf := ipos h4 hf
      refine lv_aload_n hx hb dX7_pickLength_10 rfl (lv_at hl 0 rfl) ?_
      refine va_get (D := D) (ci := 6) (v := .ref a_picker) (C := RX7) (T := TX7) (N := 8) hx hb hts (fun w h => mb (iX7 w h)) hown hK hP 0 rfl rfl 5 (by decide) (hts _ (mb tb_275)) (fun _ h9 => h9) rfl dX7_pickLength_11 ?_
      refine lv_aload_n hx hb dX7_pickLength_14 rfl (lv_at hl 0 rfl) ?_
      refine va_get (D := D) (ci := 6) (v := .ref a_now) (C := RX7) (T := TX7) (N := 8) hx hb hts (fun w h => mb (iX7 w h)) hown hK hP 0 rfl rfl 0 (by decide) (hts _ (mb tb_270)) (fun _ h9 => h9) rfl dX7_pickLength_15 ?_
      refine va_get (D := D) (ci := 5) (v := .ref a_now_shelves) (C := RX6) (T := TX6) (N := 9) hx hb hts (fun w h => mb (iX6 w h)) hown hK hP 1 rfl rfl 6 (by decide) (hts _ (mb tb_169)) (fun _ h9 => h9) rfl dX7_pickLength_18 ?_
      obtain ⟨r24, o26, o27, o28, hc25, hf⟩ := ob4 hf
      refine rw_calli (r := r24) (va_runV (As := [.ref a_now_shelves]) (rest := []) ⟨hx, hb, hml, hown, hts⟩ (k_X3_through l hl0 D cI cJ cZ cS B0 H.size a_picker a_picker_least a_picker_next a_now_shelves a_now_shelves_lot a_now_shelves_pieces a_now_shelves_mark a_now_shelves_byDistance c_picker_deepest c_picker_shallowest c_picker_widest c_now_shelves_lanes c_now_shelves_positions c_now_shelves_room c_now_shelves_gap c_now_shelves_places c_now_shelves_picked r24 o26 o27 o28 hc25) (cwV 1 hts (gV tb_926 tb_927 tb_928 tb_7 tb_929) rfl rfl rfl (by decide +kernel) ⟨Nat.le_of_ble_eq_true rfl, Nat.le_of_ble_eq_true rfl⟩) ⟨wp_blind, va_recv hK hP (ci := 2) (q0 := 3) rfl rfl, wp_pre (hP.sub [3, 2] rfl) hK (va_D.sub (hD.weaken (fun _ _ _ h9 => hAB _ h9)) [3, 2] rfl rfl) (hBn _ _ hS) (hEn _ _ hS)⟩ rfl rfl hl.1 rfl (lv_room (Nat.le_of_ble_eq_true rfl)) dX7_pickLength_21 ⟨Nat.le_of_ble_eq_true rfl, Nat.le_of_ble_eq_true rfl⟩) hP hD hS hA [oX7 a0 a_now a_past c_acts c_nextSlot a_plan a_picker a_rest a_packed, oX6 a_now c_now_today c_now_products c_now_itemCount a_now_items a_now_books a_now_terms a_now_shelves a_now_lots a_now_orders, oX5 a_now_shelves c_now_shelves_lanes c_now_shelves_positions c_now_shelves_room c_now_shelves_gap c_now_shelves_places c_now_shelves_picked a_now_shelves_lot a_now_shelves_pieces a_now_shelves_mark a_now_shelves_byDistance, oX3 a_picker a_picker_least a_picker_next o26 o27 o28, rI cI a_picker_least 5 c_picker_least, rI cI a_picker_next 5 c_picker_next] 6 [3, 2] [0, 1, 4, 5] rfl rfl rfl rfl (by decide +kernel) rfl (fun H locs hP hD hS => ?_)
      cases hf
      refine vx_ret ?_
      refine W.widen (k := 1) (n := 6) (Nat.le_of_ble_eq_true rfl) (Nat.le_of_ble_eq_true rfl) ?_
      exact W.iret hx hb hr (fun t ht hW => ⟨⟨_, (), rfl, rfl, (by show va_P D vwCl _ t.heap; rw [ht]; exact hP)⟩, hS.F ht⟩) hS.2.2 dX7_pickLength_24
def f_X7_withItem_J15 (n0 : Int32) (n1 : Int32) (t0 : Int32) : Option (Int32) :=
  (if t0 = 0 then some ((((n0 / 64) + 1) * 64) + n1)
  else some (n0 + n1))
def f_X7_withItem (v0 : Int32) (v1 : Int32) (v2 : Int32) : Option (Int32) :=
  (if v2 < ((v0 - v0 / 64 * 64) + v1) then f_X7_withItem_J15 v0 v1 0
  else f_X7_withItem_J15 v0 v1 1)
set_option maxHeartbeats 4000000 in
set_option maxRecDepth 100000 in
theorem k_X7_withItem (l : Launch) (hl0 : l.stackTraces = false) (D : va_G) (cI cJ cZ cS : ClassId) (B0 : Nat) (H0 : Heap) (v0 : Int32) (v1 : Int32) (v2 : Int32) (r9 : Int32)  (hf : f_X7_withItem v0 v1 v2 = some r9) : Met l yX7_withItem (wz yX7_withItem cX7_withItem 4 (some .int)) ({ frames := 0, cells := 0, slots := 0, locals := 0 }) (va_Pc [.int v0, .int v1, .int v2] (rp D cI cJ cZ cS B0 [] H0)) (va_Qi (fun (r2 : Int32) (_ : Unit) => r2 = r9) (fun _ t => t.heap = H0) (fun q => H0.size ≤ q)) 0 0 (fun q => H0.size ≤ q) := by
  refine Met.ofW (cc := cX7_withItem) (maxL := 4) (ret := (some .int)) (by decide) rfl ?_
  intro p e s m args below meth c s₁ B hml hv
  obtain ⟨rfl, hH, hP, hK, hB0, hE⟩ := hv
  subst hH
  have hx := B.exec
  have hb := B.bytes
  have hr := B.returns
  have hts := atoms_spec (ws := (wz yX7_withItem cX7_withItem 4 (some .int))) B.pre
  have hown : s.vm.findClass RX7 = some m.cls := findClass_of_methodNamed B.named
  have hlocks := B.notSynchronized
  have hAB : ∀ q : Nat, s.heap.size ≤ q → B0 ≤ q := fun q h => Nat.le_trans hB0 h
  have hA : ∀ q : Nat, s.heap.size ≤ q → s.heap.size ≤ q := fun _ h => h
  have hS : va_S (fun q => s.heap.size ≤ q) s.heap s.heap [] := va_S.rf
  have hBn := fun (H : Heap) (locs : List Loc) (h : va_S (fun q => s.heap.size ≤ q) s.heap H locs) => Nat.le_trans hB0 h.1
  have hEn := fun (H : Heap) (locs : List Loc) (h : va_S (fun q => s.heap.size ≤ q) s.heap H locs) => gE_now hE h hAB
  have hl := lv_entry ([.int v0, .int v1, .int v2]) (n := 4) (Nat.le_of_ble_eq_true rfl)
  rw [lg_entry_eq]
  generalize (lg_sl ([.int v0, .int v1, .int v2]) ++ List.replicate (4 - (lg_sl ([.int v0, .int v1, .int v2])).length) Slot.unset).toArray = ls at hl ⊢
  have hl : lv_has ls 4 [(0, .int v0), (1, .int v1), (2, .int v2)] := hl
  obtain ⟨H, hHe⟩ : ∃ H : Heap, H = s.heap := ⟨_, rfl⟩
  have hP : va_P D vwCl [] H := by rw [hHe]; exact hP
  have hS : va_S (fun q => s.heap.size ≤ q) s.heap H [] := by rw [hHe]; exact hS
  refine W_heq hHe ?_
  unfold f_X7_withItem at hf
  refine gen_go (fun WW hWW => ?_)
  have hJ15 : ∀ (n0 : Int32) (n1 : Int32) (t0 : Int32), f_X7_withItem_J15 n0 n1 t0 = some r9 → ∀ (ls : Array Slot), lv_has ls 4 [(0, .int n0), (1, .int n1)] → WW (F0 m 15 ls [.int t0]) := by
    intro n0 n1 t0 hf ls hl
    unfold f_X7_withItem_J15 at hf
    refine (hWW _).mpr ?_
    refine lv_istore_n (lv' := [(3, .int t0), (0, .int n0), (1, .int n1)]) hx hb dX7_withItem_15 rfl hl (by decide) rfl (fun ls hl => ?_)
    refine lv_iload_n hx hb dX7_withItem_16 rfl (lv_at hl 0 rfl) ?_
    refine lv_if_eq (tgt := 26) hx hb dX7_withItem_17 (by decide) (fun h2 => ?_) (fun h2 => ?_)
    · have hf := ipos h2 hf
      refine lv_iload_n hx hb dX7_withItem_26 rfl (lv_at hl 1 rfl) ?_
      refine lv_bipush (v := 64) hx hb dX7_withItem_27 (by decide) ?_
      refine lv_idiv hx hb dX7_withItem_29 (by decide) ?_
      refine lv_iconst (v := 1) hx hb dX7_withItem_30 (by decide) ?_
      refine lv_iadd hx hb dX7_withItem_31 ?_
      refine lv_bipush (v := 64) hx hb dX7_withItem_32 (by decide) ?_
      refine lv_imul hx hb dX7_withItem_34 ?_
      refine lv_iload_n hx hb dX7_withItem_35 rfl (lv_at hl 2 rfl) ?_
      refine lv_iadd hx hb dX7_withItem_36 ?_
      cases hf
      exact W.iret hx hb hr (fun t ht hW => ⟨⟨_, (), rfl, rfl, (ht.trans hHe)⟩, hS.F ht⟩) hS.2.2 dX7_withItem_37
    · have hf := ineg h2 hf
      refine lv_iload_n hx hb dX7_withItem_20 rfl (lv_at hl 1 rfl) ?_
      refine lv_iload_n hx hb dX7_withItem_21 rfl (lv_at hl 2 rfl) ?_
      refine lv_iadd hx hb dX7_withItem_22 ?_
      refine lv_goto (tgt := 37) hx hb dX7_withItem_23 (by decide) ?_
      cases hf
      exact W.iret hx hb hr (fun t ht hW => ⟨⟨_, (), rfl, rfl, (ht.trans hHe)⟩, hS.F ht⟩) hS.2.2 dX7_withItem_37
  refine (hWW _).mpr ?_
  refine lv_iload_n hx hb dX7_withItem_0 rfl (lv_at hl 0 rfl) ?_
  refine lv_bipush (v := 64) hx hb dX7_withItem_1 (by decide) ?_
  refine lv_irem hx hb dX7_withItem_3 (by decide) ?_
  refine lv_iload_n hx hb dX7_withItem_4 rfl (lv_at hl 1 rfl) ?_
  refine lv_iadd hx hb dX7_withItem_5 ?_
  refine lv_iload_n hx hb dX7_withItem_6 rfl (lv_at hl 2 rfl) ?_
  refine lv_icmp_gt (tgt := 14) hx hb dX7_withItem_7 (by decide) (fun h1 => ?_) (fun h1 => ?_)
  · have hf := ipos h1 hf
    refine lv_iconst (v := 0) hx hb dX7_withItem_14 (by decide) ?_
    exact (hWW _).mp (hJ15 _ _ _ hf ls (lv_sub hl [0, 1] rfl))
  · have hf := ineg h1 hf
    refine lv_iconst (v := 1) hx hb dX7_withItem_10 (by decide) ?_
    refine lv_goto (tgt := 15) hx hb dX7_withItem_11 (by decide) ?_
    exact (hWW _).mp (hJ15 _ _ _ hf ls (lv_sub hl [0, 1] rfl))
def f_X7_fewestBoxes_L41_J96 (n1 : Int32) (n2 : Int32) (n3 : Int32) (n4 : Int32) (n5 : Int32) (c_now_itemCount : Int32) (c_now_items : Nat → Int32) (c_packed : Nat → Int32) : Option ((Int32 × Int32) ⊕ Int32) :=
  some (.inl (n4, n5 + 1))
def f_X7_fewestBoxes_L41 (n1 : Int32) (n2 : Int32) (n3 : Int32) (c_now_itemCount : Int32) (c_now_items : Nat → Int32) (c_packed : Nat → Int32) (n4 : Int32) (n5 : Int32) : Option ((Int32 × Int32) ⊕ Int32) :=
  (if c_now_itemCount ≤ n5 then some (.inr n4)
  else (if (n3 &&& (1 <<< (n5 &&& 31))) = 0 then f_X7_fewestBoxes_L41_J96 n1 n2 n3 n4 n5 c_now_itemCount c_now_items c_packed
  else gd (n3 &&& ((1 <<< (n5 &&& 31)) ^^^ (-1))) 256 (gd n5 8 (bnd1 (f_X7_withItem (c_packed (n3 &&& ((1 <<< (n5 &&& 31)) ^^^ (-1))).toNatClampNeg) (c_now_items n5.toNatClampNeg) n1) (fun r8 =>
  (f_X7_fewestBoxes_L41_J96 n1 n2 n3 (if r8 < n4 then r8 else n4) n5 c_now_itemCount c_now_items c_packed))))))
def f_X7_fewestBoxes_L19 (n1 : Int32) (n2 : Int32) (c_now_itemCount : Int32) (c_now_items : Nat → Int32) (n3 : Int32) (c_packed : Nat → Int32) : Option ((Int32 × (Nat → Int32)) ⊕ (Nat → Int32)) :=
  (if n2 ≤ n3 then some (.inr c_packed)
  else (if 256 ≤ n3 then some (.inr c_packed)
  else (bnd1 (loop (fun z => f_X7_fewestBoxes_L41 n1 n2 n3 c_now_itemCount c_now_items c_packed z.1 z.2) fu (2147483647, 0)) fun m11 =>
  gd n3 256 (some (.inl (n3 + 1, upd c_packed n3.toNatClampNeg m11))))))
def f_X7_fewestBoxes (v1 : Int32) (c_now_itemCount : Int32) (c_now_items : Nat → Int32) (c_packed : Nat → Int32) : Option (Int32 × (Nat → Int32)) :=
  gd 0 256 ((bnd1 (loop (fun z => f_X7_fewestBoxes_L19 v1 (1 <<< (c_now_itemCount &&& 31)) c_now_itemCount c_now_items z.1 z.2) fu (1, upd c_packed (0 : Int32).toNatClampNeg v1)) fun c14 =>
  gd ((1 <<< (c_now_itemCount &&& 31)) - 1) 256 (some ((c14 ((1 <<< (c_now_itemCount &&& 31)) - 1).toNatClampNeg) / 64, c14))))
set_option maxHeartbeats 4000000 in
set_option maxRecDepth 100000 in
theorem k_X7_fewestBoxes (l : Launch) (hl0 : l.stackTraces = false) (D : va_G) (cI cJ cZ cS : ClassId) (B0 : Nat) (sz : Nat) (a0 a_now a_past a_plan a_picker a_rest a_packed a_now_items a_now_books a_now_terms a_now_shelves a_now_lots a_now_orders : Nat) (c_acts : Int32) (c_nextSlot : Int32) (c_now_today : Int32) (c_now_products : Int32) (c_now_itemCount : Int32) (c_now_items : Nat → Int32) (c_packed : Nat → Int32) (v1 : Int32) (r9 : Int32) (oc_packed : Nat → Int32)  (hf : f_X7_fewestBoxes v1 c_now_itemCount c_now_items c_packed = some (r9, oc_packed)) : Met l yX7_fewestBoxes (wz yX7_fewestBoxes cX7_fewestBoxes 6 (some .int)) ({ frames := 1, cells := 0, slots := 0, locals := 40 }) (va_Pc [.ref a0, .int v1] (wp D cI cJ cZ cS B0 [oX7 a0 a_now a_past c_acts c_nextSlot a_plan a_picker a_rest a_packed, oX6 a_now c_now_today c_now_products c_now_itemCount a_now_items a_now_books a_now_terms a_now_shelves a_now_lots a_now_orders, rI cI a_now_items 8 c_now_items, rI cI a_packed 256 c_packed] sz)) (va_Qi (fun (r2 : Int32) (_ : Unit) => r2 = r9) (fun _ t => va_P D vwCl [oX7 a0 a_now a_past c_acts c_nextSlot a_plan a_picker a_rest a_packed, oX6 a_now c_now_today c_now_products c_now_itemCount a_now_items a_now_books a_now_terms a_now_shelves a_now_lots a_now_orders, rI cI a_now_items 8 c_now_items, rI cI a_packed 256 oc_packed] t.heap) (va_A [oX7 a0 a_now a_past c_acts c_nextSlot a_plan a_picker a_rest a_packed, oX6 a_now c_now_today c_now_products c_now_itemCount a_now_items a_now_books a_now_terms a_now_shelves a_now_lots a_now_orders, rI cI a_now_items 8 c_now_items, rI cI a_packed 256 c_packed] sz)) 0 0 (va_A [oX7 a0 a_now a_past c_acts c_nextSlot a_plan a_picker a_rest a_packed, oX6 a_now c_now_today c_now_products c_now_itemCount a_now_items a_now_books a_now_terms a_now_shelves a_now_lots a_now_orders, rI cI a_now_items 8 c_now_items, rI cI a_packed 256 c_packed] sz) := by
  refine Met.ofW (cc := cX7_fewestBoxes) (maxL := 6) (ret := (some .int)) (by decide) rfl ?_
  intro p e s m args below meth c s₁ B hml hv
  obtain ⟨rfl, hsz, hP, hK, hD0, hB0, hE⟩ := hv
  subst hsz
  have hx := B.exec
  have hb := B.bytes
  have hr := B.returns
  have hts := atoms_spec (ws := (wz yX7_fewestBoxes cX7_fewestBoxes 6 (some .int))) B.pre
  have hown : s.vm.findClass RX7 = some m.cls := findClass_of_methodNamed B.named
  have hlocks := B.notSynchronized
  have hD := hD0.self (sz := s.heap.size)
  have hAB : ∀ q : Nat, va_A [oX7 a0 a_now a_past c_acts c_nextSlot a_plan a_picker a_rest a_packed, oX6 a_now c_now_today c_now_products c_now_itemCount a_now_items a_now_books a_now_terms a_now_shelves a_now_lots a_now_orders, rI cI a_now_items 8 c_now_items, rI cI a_packed 256 c_packed] s.heap.size q → B0 ≤ q := va_A_B hD0 hB0
  generalize hAe : va_A [oX7 a0 a_now a_past c_acts c_nextSlot a_plan a_picker a_rest a_packed, oX6 a_now c_now_today c_now_products c_now_itemCount a_now_items a_now_books a_now_terms a_now_shelves a_now_lots a_now_orders, rI cI a_now_items 8 c_now_items, rI cI a_packed 256 c_packed] s.heap.size = A at hD hAB ⊢
  have hA : ∀ q : Nat, s.heap.size ≤ q → A q := fun q h => by rw [← hAe]; exact Or.inr h
  have hFa := hA
  have hS : va_S A s.heap s.heap [] := va_S.rf
  have hBn := fun (H : Heap) (locs : List Loc) (h : va_S A s.heap H locs) => Nat.le_trans hB0 h.1
  have hEn := fun (H : Heap) (locs : List Loc) (h : va_S A s.heap H locs) => gE_now hE h hAB
  have hl := lv_entry ([.ref a0, .int v1]) (n := 6) (Nat.le_of_ble_eq_true rfl)
  rw [lg_entry_eq]
  generalize (lg_sl ([.ref a0, .int v1]) ++ List.replicate (6 - (lg_sl ([.ref a0, .int v1])).length) Slot.unset).toArray = ls at hl ⊢
  have hl : lv_has ls 6 [(0, .ref a0), (1, .int v1)] := hl
  obtain ⟨H, hHe⟩ : ∃ H : Heap, H = s.heap := ⟨_, rfl⟩
  have hP : va_P D vwCl [oX7 a0 a_now a_past c_acts c_nextSlot a_plan a_picker a_rest a_packed, oX6 a_now c_now_today c_now_products c_now_itemCount a_now_items a_now_books a_now_terms a_now_shelves a_now_lots a_now_orders, rI cI a_now_items 8 c_now_items, rI cI a_packed 256 c_packed] H := by rw [hHe]; exact hP
  have hS : va_S A s.heap H [] := by rw [hHe]; exact hS
  refine W_heq hHe ?_
  unfold f_X7_fewestBoxes at hf
  refine gen_goW (fun WW hWW => ?_)
  have hL19 : ∀ (n : Nat) (n1 : Int32) (n2 : Int32) (n3 : Int32) (c_packed : Nat → Int32) (e_c_packed : Nat → Int32), loop (fun z => f_X7_fewestBoxes_L19 n1 n2 c_now_itemCount c_now_items z.1 z.2) n (n3, c_packed) = some e_c_packed → (∀ (H : Heap) (locs : List Loc) (ls : Array Slot), va_P D vwCl [oX7 a0 a_now a_past c_acts c_nextSlot a_plan a_picker a_rest a_packed, oX6 a_now c_now_today c_now_products c_now_itemCount a_now_items a_now_books a_now_terms a_now_shelves a_now_lots a_now_orders, rI cI a_now_items 8 c_now_items, rI cI a_packed 256 e_c_packed] H → va_D A [oX7 a0 a_now a_past c_acts c_nextSlot a_plan a_picker a_rest a_packed, oX6 a_now c_now_today c_now_products c_now_itemCount a_now_items a_now_books a_now_terms a_now_shelves a_now_lots a_now_orders, rI cI a_now_items 8 c_now_items, rI cI a_packed 256 e_c_packed] → va_S A s.heap H locs → lv_has ls 6 [(0, .ref a0), (2, .int n2)] → WW H locs 0 0 (F0 m 116 ls [])) → ∀ (H : Heap) (locs : List Loc) (ls : Array Slot), va_P D vwCl [oX7 a0 a_now a_past c_acts c_nextSlot a_plan a_picker a_rest a_packed, oX6 a_now c_now_today c_now_products c_now_itemCount a_now_items a_now_books a_now_terms a_now_shelves a_now_lots a_now_orders, rI cI a_now_items 8 c_now_items, rI cI a_packed 256 c_packed] H → va_D A [oX7 a0 a_now a_past c_acts c_nextSlot a_plan a_picker a_rest a_packed, oX6 a_now c_now_today c_now_products c_now_itemCount a_now_items a_now_books a_now_terms a_now_shelves a_now_lots a_now_orders, rI cI a_now_items 8 c_now_items, rI cI a_packed 256 c_packed] → va_S A s.heap H locs → lv_has ls 6 [(0, .ref a0), (1, .int n1), (2, .int n2), (3, .int n3)] → WW H locs 0 0 (F0 m 19 ls []) := by
    intro n
    induction n with
    | zero =>
      intro n1 n2 n3 c_packed e_c_packed hlp
      exact absurd hlp (by simp [loop])
    | succ n ih =>
      intro n1 n2 n3 c_packed e_c_packed hlp K H locs ls hP hD hS hl
      obtain ⟨x9, hf, hlp⟩ := loop_s hlp
      have hf : f_X7_fewestBoxes_L19 n1 n2 c_now_itemCount c_now_items n3 c_packed = some x9 := hf
      unfold f_X7_fewestBoxes_L19 at hf
      have hL41 : ∀ (n : Nat) (n1 : Int32) (n2 : Int32) (n3 : Int32) (c_packed : Nat → Int32) (n4 : Int32) (n5 : Int32) (e4 : Int32), loop (fun z => f_X7_fewestBoxes_L41 n1 n2 n3 c_now_itemCount c_now_items c_packed z.1 z.2) n (n4, n5) = some e4 → (∀ (H : Heap) (locs : List Loc) (ls : Array Slot), va_P D vwCl [oX7 a0 a_now a_past c_acts c_nextSlot a_plan a_picker a_rest a_packed, oX6 a_now c_now_today c_now_products c_now_itemCount a_now_items a_now_books a_now_terms a_now_shelves a_now_lots a_now_orders, rI cI a_now_items 8 c_now_items, rI cI a_packed 256 c_packed] H → va_D A [oX7 a0 a_now a_past c_acts c_nextSlot a_plan a_picker a_rest a_packed, oX6 a_now c_now_today c_now_products c_now_itemCount a_now_items a_now_books a_now_terms a_now_shelves a_now_lots a_now_orders, rI cI a_now_items 8 c_now_items, rI cI a_packed 256 c_packed] → va_S A s.heap H locs → lv_has ls 6 [(0, .ref a0), (1, .int n1), (2, .int n2), (3, .int n3), (4, .int e4)] → WW H locs 0 0 (F0 m 102 ls [])) → ∀ (H : Heap) (locs : List Loc) (ls : Array Slot), va_P D vwCl [oX7 a0 a_now a_past c_acts c_nextSlot a_plan a_picker a_rest a_packed, oX6 a_now c_now_today c_now_products c_now_itemCount a_now_items a_now_books a_now_terms a_now_shelves a_now_lots a_now_orders, rI cI a_now_items 8 c_now_items, rI cI a_packed 256 c_packed] H → va_D A [oX7 a0 a_now a_past c_acts c_nextSlot a_plan a_picker a_rest a_packed, oX6 a_now c_now_today c_now_products c_now_itemCount a_now_items a_now_books a_now_terms a_now_shelves a_now_lots a_now_orders, rI cI a_now_items 8 c_now_items, rI cI a_packed 256 c_packed] → va_S A s.heap H locs → lv_has ls 6 [(0, .ref a0), (1, .int n1), (2, .int n2), (3, .int n3), (4, .int n4), (5, .int n5)] → WW H locs 0 0 (F0 m 41 ls []) := by
        intro n
        induction n with
        | zero =>
          intro n1 n2 n3 c_packed n4 n5 e4 hlp
          exact absurd hlp (by simp [loop])
        | succ n ih =>
          intro n1 n2 n3 c_packed n4 n5 e4 hlp K H locs ls hP hD hS hl
          obtain ⟨x9, hf, hlp⟩ := loop_s hlp
          have hf : f_X7_fewestBoxes_L41 n1 n2 n3 c_now_itemCount c_now_items c_packed n4 n5 = some x9 := hf
          unfold f_X7_fewestBoxes_L41 at hf
          have hJ96 : ∀ (n4 : Int32) (n5 : Int32), f_X7_fewestBoxes_L41_J96 n1 n2 n3 n4 n5 c_now_itemCount c_now_items c_packed = some x9 → ∀ (H : Heap) (locs : List Loc) (ls : Array Slot), va_P D vwCl [oX7 a0 a_now a_past c_acts c_nextSlot a_plan a_picker a_rest a_packed, oX6 a_now c_now_today c_now_products c_now_itemCount a_now_items a_now_books a_now_terms a_now_shelves a_now_lots a_now_orders, rI cI a_now_items 8 c_now_items, rI cI a_packed 256 c_packed] H → va_D A [oX7 a0 a_now a_past c_acts c_nextSlot a_plan a_picker a_rest a_packed, oX6 a_now c_now_today c_now_products c_now_itemCount a_now_items a_now_books a_now_terms a_now_shelves a_now_lots a_now_orders, rI cI a_now_items 8 c_now_items, rI cI a_packed 256 c_packed] → va_S A s.heap H locs → lv_has ls 6 [(0, .ref a0), (1, .int n1), (2, .int n2), (3, .int n3), (4, .int n4), (5, .int n5)] → WW H locs 0 0 (F0 m 96 ls []) := by
            intro n4 n5 hf H locs ls hP hD hS hl
            unfold f_X7_fewestBoxes_L41_J96 at hf
            refine (hWW _ _ _ _ _).mpr ?_
            refine lv_iinc (v := (n5 + 1)) (lv' := [(5, .int (n5 + 1)), (0, .ref a0), (1, .int n1), (2, .int n2), (3, .int n3), (4, .int n4)]) hx hb dX7_fewestBoxes_96 hl (k := 5) rfl rfl (by decide) rfl (fun ls hl => ?_)
            refine lv_goto (tgt := 41) hx hb dX7_fewestBoxes_99 (by decide) ?_
            obtain rfl := Option.some.inj hf
            exact (hWW _ _ _ _ _).mp (ih _ _ _ _ _ _ _ hlp K _ _ ls hP hD hS (lv_sub hl [1, 2, 3, 4, 5, 0] rfl))
          refine (hWW _ _ _ _ _).mpr ?_
          refine lv_iload hx hb dX7_fewestBoxes_41 (lv_at hl 5 rfl) ?_
          refine lv_aload_n hx hb dX7_fewestBoxes_43 rfl (lv_at hl 0 rfl) ?_
          refine va_get (D := D) (ci := 6) (v := .ref a_now) (C := RX7) (T := TX7) (N := 8) hx hb hts (fun w h => mb (iX7 w h)) hown hK hP 0 rfl rfl 0 (by decide) (hts _ (mb tb_270)) (fun _ h9 => h9) rfl dX7_fewestBoxes_44 ?_
          refine va_get (D := D) (ci := 5) (v := .int c_now_itemCount) (C := RX6) (T := TX6) (N := 9) hx hb hts (fun w h => mb (iX6 w h)) hown hK hP 1 rfl rfl 2 (by decide) (hts _ (mb tb_161)) (fun _ h9 => h9) rfl dX7_fewestBoxes_47 ?_
          refine lv_icmp_ge (tgt := 102) hx hb dX7_fewestBoxes_50 (by decide) (fun h4 => ?_) (fun h4 => ?_)
          · have hf := ipos h4 hf
            obtain rfl := Option.some.inj hf
            cases lpx_r hlp
            exact (hWW _ _ _ _ _).mp (K _ _ ls hP hD hS (lv_sub hl [0, 1, 2, 3, 4] rfl))
          · have hf := ineg h4 hf
            refine lv_iload_n hx hb dX7_fewestBoxes_53 rfl (lv_at hl 3 rfl) ?_
            refine lv_iconst (v := 1) hx hb dX7_fewestBoxes_54 (by decide) ?_
            refine lv_iload hx hb dX7_fewestBoxes_55 (lv_at hl 5 rfl) ?_
            refine lv_ishl hx hb dX7_fewestBoxes_57 ?_
            refine lv_iand hx hb dX7_fewestBoxes_58 ?_
            refine lv_if_eq (tgt := 96) hx hb dX7_fewestBoxes_59 (by decide) (fun h5 => ?_) (fun h5 => ?_)
            · have hf := ipos h5 hf
              exact (hWW _ _ _ _ _).mp (hJ96 _ _ hf _ _ ls hP hD hS (lv_sub hl [0, 1, 2, 3, 4, 5] rfl))
            · have hf := ineg h5 hf
              refine lv_iload hx hb dX7_fewestBoxes_62 (lv_at hl 4 rfl) ?_
              refine lv_aload_n hx hb dX7_fewestBoxes_64 rfl (lv_at hl 0 rfl) ?_
              refine va_get (D := D) (ci := 6) (v := .ref a_packed) (C := RX7) (T := TX7) (N := 8) hx hb hts (fun w h => mb (iX7 w h)) hown hK hP 0 rfl rfl 7 (by decide) (hts _ (mb tb_277)) (fun _ h9 => h9) rfl dX7_fewestBoxes_65 ?_
              refine lv_iload_n hx hb dX7_fewestBoxes_68 rfl (lv_at hl 3 rfl) ?_
              refine lv_iconst (v := 1) hx hb dX7_fewestBoxes_69 (by decide) ?_
              refine lv_iload hx hb dX7_fewestBoxes_70 (lv_at hl 5 rfl) ?_
              refine lv_ishl hx hb dX7_fewestBoxes_72 ?_
              refine lv_iconst (v := (-1)) hx hb dX7_fewestBoxes_73 (by decide) ?_
              refine lv_ixor hx hb dX7_fewestBoxes_74 ?_
              refine lv_iand hx hb dX7_fewestBoxes_75 ?_
              obtain ⟨h6, hf⟩ := ob_d hf
              refine va_iald hx hb hK hP 3 0 rfl rfl h6 dX7_fewestBoxes_76 ?_
              refine lv_aload_n hx hb dX7_fewestBoxes_77 rfl (lv_at hl 0 rfl) ?_
              refine va_get (D := D) (ci := 6) (v := .ref a_now) (C := RX7) (T := TX7) (N := 8) hx hb hts (fun w h => mb (iX7 w h)) hown hK hP 0 rfl rfl 0 (by decide) (hts _ (mb tb_270)) (fun _ h9 => h9) rfl dX7_fewestBoxes_78 ?_
              refine va_get (D := D) (ci := 5) (v := .ref a_now_items) (C := RX6) (T := TX6) (N := 9) hx hb hts (fun w h => mb (iX6 w h)) hown hK hP 1 rfl rfl 3 (by decide) (hts _ (mb tb_163)) (fun _ h9 => h9) rfl dX7_fewestBoxes_81 ?_
              refine lv_iload hx hb dX7_fewestBoxes_84 (lv_at hl 5 rfl) ?_
              obtain ⟨h7, hf⟩ := ob_d hf
              refine va_iald hx hb hK hP 2 0 rfl rfl h7 dX7_fewestBoxes_86 ?_
              refine lv_iload_n hx hb dX7_fewestBoxes_87 rfl (lv_at hl 1 rfl) ?_
              obtain ⟨r8, hc9, hf⟩ := ob1 hf
              refine ro_calli (r := r8) (va_runS (As := [.int (c_packed (n3 &&& ((1 <<< (n5 &&& 31)) ^^^ (-1))).toNatClampNeg), .int (c_now_items n5.toNatClampNeg), .int n1]) (rest := [.int n4]) ⟨hx, hb, hml, hown, hts⟩ (k_X7_withItem l hl0 D cI cJ cZ cS B0 H (c_packed (n3 &&& ((1 <<< (n5 &&& 31)) ^^^ (-1))).toNatClampNeg) (c_now_items n5.toNatClampNeg) n1 r8 hc9) (va_cwS 3 hts (gS tb_991 tb_992 tb_1 tb_993) rfl rfl rfl (by decide +kernel) ⟨Nat.le_of_ble_eq_true rfl, Nat.le_of_ble_eq_true rfl⟩) ⟨rp_blind, rp_pre (hP.sub [] rfl) hK (hBn _ _ hS) (hEn _ _ hS)⟩ rfl rfl hl.1 rfl (lv_room (Nat.le_of_ble_eq_true rfl)) dX7_fewestBoxes_88 ⟨Nat.le_of_ble_eq_true rfl, Nat.le_of_ble_eq_true rfl⟩) ?_
              refine va_mmin hx hb (hml.trans hl.1.symm) hown (hts _ (mb tb_341)) (hts _ (mb tb_252)) (hts _ (mb tb_8)) (hts _ (mb wm_min)) (Nat.le_of_ble_eq_true rfl) (Nat.le_of_ble_eq_true rfl) (Nat.zero_le _) (Nat.zero_le _) dX7_fewestBoxes_91 ?_
              refine lv_istore (lv' := [(4, .int (if r8 < n4 then r8 else n4)), (0, .ref a0), (1, .int n1), (2, .int n2), (3, .int n3), (5, .int n5)]) hx hb dX7_fewestBoxes_94 hl (by decide) rfl (fun ls hl => ?_)
              exact (hWW _ _ _ _ _).mp (hJ96 _ _ hf _ _ ls hP hD hS (lv_sub hl [1, 2, 3, 4, 0, 5] rfl))
      refine (hWW _ _ _ _ _).mpr ?_
      refine lv_iload_n hx hb dX7_fewestBoxes_19 rfl (lv_at hl 3 rfl) ?_
      refine lv_iload_n hx hb dX7_fewestBoxes_20 rfl (lv_at hl 2 rfl) ?_
      refine lv_icmp_ge (tgt := 116) hx hb dX7_fewestBoxes_21 (by decide) (fun h2 => ?_) (fun h2 => ?_)
      · have hf := ipos h2 hf
        obtain rfl := Option.some.inj hf
        cases lpx_r hlp
        exact (hWW _ _ _ _ _).mp (K _ _ ls hP hD hS (lv_sub hl [0, 2] rfl))
      · have hf := ineg h2 hf
        refine lv_iload_n hx hb dX7_fewestBoxes_24 rfl (lv_at hl 3 rfl) ?_
        refine lv_aload_n hx hb dX7_fewestBoxes_25 rfl (lv_at hl 0 rfl) ?_
        refine va_get (D := D) (ci := 6) (v := .ref a_packed) (C := RX7) (T := TX7) (N := 8) hx hb hts (fun w h => mb (iX7 w h)) hown hK hP 0 rfl rfl 7 (by decide) (hts _ (mb tb_277)) (fun _ h9 => h9) rfl dX7_fewestBoxes_26 ?_
        refine va_alen (v := 256) hx hb hK hP 3 0 rfl rfl rfl dX7_fewestBoxes_29 ?_
        refine lv_icmp_ge (tgt := 116) hx hb dX7_fewestBoxes_30 (by decide) (fun h3 => ?_) (fun h3 => ?_)
        · have hf := ipos h3 hf
          obtain rfl := Option.some.inj hf
          cases lpx_r hlp
          exact (hWW _ _ _ _ _).mp (K _ _ ls hP hD hS (lv_sub hl [0, 2] rfl))
        · have hf := ineg h3 hf
          refine lv_ldcw hx hb hown (hts _ (mb tb_853)) dX7_fewestBoxes_33 ?_
          refine lv_istore (lv' := [(4, .int 2147483647), (0, .ref a0), (1, .int n1), (2, .int n2), (3, .int n3)]) hx hb dX7_fewestBoxes_36 hl (by decide) rfl (fun ls hl => ?_)
          refine lv_iconst (v := 0) hx hb dX7_fewestBoxes_38 (by decide) ?_
          refine lv_istore (lv' := [(5, .int 0), (4, .int 2147483647), (0, .ref a0), (1, .int n1), (2, .int n2), (3, .int n3)]) hx hb dX7_fewestBoxes_39 hl (by decide) rfl (fun ls hl => ?_)
          obtain ⟨m11, hc10, hf⟩ := ob1 hf
          refine (hWW _ _ _ _ _).mp (hL41 fu _ _ _ _ _ _ _ hc10 (fun H locs ls hP hD hS hl => ?_) _ _ ls hP hD hS (lv_sub hl [2, 3, 4, 5, 1, 0] rfl))
          · refine (hWW _ _ _ _ _).mpr ?_
            refine lv_aload_n hx hb dX7_fewestBoxes_102 rfl (lv_at hl 0 rfl) ?_
            refine va_get (D := D) (ci := 6) (v := .ref a_packed) (C := RX7) (T := TX7) (N := 8) hx hb hts (fun w h => mb (iX7 w h)) hown hK hP 0 rfl rfl 7 (by decide) (hts _ (mb tb_277)) (fun _ h9 => h9) rfl dX7_fewestBoxes_103 ?_
            refine lv_iload_n hx hb dX7_fewestBoxes_106 rfl (lv_at hl 3 rfl) ?_
            refine lv_iload hx hb dX7_fewestBoxes_107 (lv_at hl 4 rfl) ?_
            obtain ⟨h12, hf⟩ := ob_d hf
            refine va_iast hx hb hK hP hD hS 3 0 rfl rfl h12 dX7_fewestBoxes_109 (fun H locs hP hD hS => ?_)
            have hP : va_P D vwCl [oX7 a0 a_now a_past c_acts c_nextSlot a_plan a_picker a_rest a_packed, oX6 a_now c_now_today c_now_products c_now_itemCount a_now_items a_now_books a_now_terms a_now_shelves a_now_lots a_now_orders, rI cI a_now_items 8 c_now_items, rI cI a_packed 256 (upd c_packed n3.toNatClampNeg m11)] H := hP
            have hD : va_D A [oX7 a0 a_now a_past c_acts c_nextSlot a_plan a_picker a_rest a_packed, oX6 a_now c_now_today c_now_products c_now_itemCount a_now_items a_now_books a_now_terms a_now_shelves a_now_lots a_now_orders, rI cI a_now_items 8 c_now_items, rI cI a_packed 256 (upd c_packed n3.toNatClampNeg m11)] := hD
            refine lv_iinc (v := (n3 + 1)) (lv' := [(3, .int (n3 + 1)), (0, .ref a0), (1, .int n1), (2, .int n2), (4, .int m11)]) hx hb dX7_fewestBoxes_110 hl (k := 3) rfl rfl (by decide) rfl (fun ls hl => ?_)
            refine lv_goto (tgt := 19) hx hb dX7_fewestBoxes_113 (by decide) ?_
            obtain rfl := Option.some.inj hf
            exact (hWW _ _ _ _ _).mp (ih _ _ _ _ _ hlp K _ _ ls hP hD hS (lv_sub hl [1, 2, 3, 0] rfl))
  refine (hWW _ _ _ _ _).mpr ?_
  refine lv_iconst (v := 1) hx hb dX7_fewestBoxes_0 (by decide) ?_
  refine lv_aload_n hx hb dX7_fewestBoxes_1 rfl (lv_at hl 0 rfl) ?_
  refine va_get (D := D) (ci := 6) (v := .ref a_now) (C := RX7) (T := TX7) (N := 8) hx hb hts (fun w h => mb (iX7 w h)) hown hK hP 0 rfl rfl 0 (by decide) (hts _ (mb tb_270)) (fun _ h9 => h9) rfl dX7_fewestBoxes_2 ?_
  refine va_get (D := D) (ci := 5) (v := .int c_now_itemCount) (C := RX6) (T := TX6) (N := 9) hx hb hts (fun w h => mb (iX6 w h)) hown hK hP 1 rfl rfl 2 (by decide) (hts _ (mb tb_161)) (fun _ h9 => h9) rfl dX7_fewestBoxes_5 ?_
  refine lv_ishl hx hb dX7_fewestBoxes_8 ?_
  refine lv_istore_n (lv' := [(2, .int (1 <<< (c_now_itemCount &&& 31))), (0, .ref a0), (1, .int v1)]) hx hb dX7_fewestBoxes_9 rfl hl (by decide) rfl (fun ls hl => ?_)
  refine lv_aload_n hx hb dX7_fewestBoxes_10 rfl (lv_at hl 1 rfl) ?_
  refine va_get (D := D) (ci := 6) (v := .ref a_packed) (C := RX7) (T := TX7) (N := 8) hx hb hts (fun w h => mb (iX7 w h)) hown hK hP 0 rfl rfl 7 (by decide) (hts _ (mb tb_277)) (fun _ h9 => h9) rfl dX7_fewestBoxes_11 ?_
  refine lv_iconst (v := 0) hx hb dX7_fewestBoxes_14 (by decide) ?_
  refine lv_iload_n hx hb dX7_fewestBoxes_15 rfl (lv_at hl 2 rfl) ?_
  obtain ⟨h1, hf⟩ := ob_d hf
  refine va_iast hx hb hK hP hD hS 3 0 rfl rfl h1 dX7_fewestBoxes_16 (fun H locs hP hD hS => ?_)
  have hP : va_P D vwCl [oX7 a0 a_now a_past c_acts c_nextSlot a_plan a_picker a_rest a_packed, oX6 a_now c_now_today c_now_products c_now_itemCount a_now_items a_now_books a_now_terms a_now_shelves a_now_lots a_now_orders, rI cI a_now_items 8 c_now_items, rI cI a_packed 256 (upd c_packed (0 : Int32).toNatClampNeg v1)] H := hP
  have hD : va_D A [oX7 a0 a_now a_past c_acts c_nextSlot a_plan a_picker a_rest a_packed, oX6 a_now c_now_today c_now_products c_now_itemCount a_now_items a_now_books a_now_terms a_now_shelves a_now_lots a_now_orders, rI cI a_now_items 8 c_now_items, rI cI a_packed 256 (upd c_packed (0 : Int32).toNatClampNeg v1)] := hD
  refine lv_iconst (v := 1) hx hb dX7_fewestBoxes_17 (by decide) ?_
  refine lv_istore_n (lv' := [(3, .int 1), (2, .int (1 <<< (c_now_itemCount &&& 31))), (0, .ref a0), (1, .int v1)]) hx hb dX7_fewestBoxes_18 rfl hl (by decide) rfl (fun ls hl => ?_)
  obtain ⟨c14, hc13, hf⟩ := ob1 hf
  refine (hWW _ _ _ _ _).mp (hL19 fu _ _ _ _ _ hc13 (fun H locs ls hP hD hS hl => ?_) _ _ ls hP hD hS (lv_sub hl [2, 3, 1, 0] rfl))
  · refine (hWW _ _ _ _ _).mpr ?_
    refine lv_aload_n hx hb dX7_fewestBoxes_116 rfl (lv_at hl 0 rfl) ?_
    refine va_get (D := D) (ci := 6) (v := .ref a_packed) (C := RX7) (T := TX7) (N := 8) hx hb hts (fun w h => mb (iX7 w h)) hown hK hP 0 rfl rfl 7 (by decide) (hts _ (mb tb_277)) (fun _ h9 => h9) rfl dX7_fewestBoxes_117 ?_
    refine lv_iload_n hx hb dX7_fewestBoxes_120 rfl (lv_at hl 1 rfl) ?_
    refine lv_iconst (v := 1) hx hb dX7_fewestBoxes_121 (by decide) ?_
    refine lv_isub hx hb dX7_fewestBoxes_122 ?_
    obtain ⟨h15, hf⟩ := ob_d hf
    refine va_iald hx hb hK hP 3 0 rfl rfl h15 dX7_fewestBoxes_123 ?_
    refine lv_bipush (v := 64) hx hb dX7_fewestBoxes_124 (by decide) ?_
    refine lv_idiv hx hb dX7_fewestBoxes_126 (by decide) ?_
    cases hf
    refine W.widen (k := 0) (n := 0) (Nat.le_of_ble_eq_true rfl) (Nat.le_of_ble_eq_true rfl) ?_
    exact W.iret hx hb hr (fun t ht hW => ⟨⟨_, (), rfl, rfl, (by show va_P D vwCl _ t.heap; rw [ht]; exact hP)⟩, hS.F ht⟩) hS.2.2 dX7_fewestBoxes_127
def f_X7_boxBound_L11 (n1 : Int32) (c_now_itemCount : Int32) (c_now_items : Nat → Int32) (n2 : Int32) (n3 : Int32) : Option ((Int32 × Int32) ⊕ Int32) :=
  (if c_now_itemCount ≤ n3 then some (.inr n2)
  else gd n3 8 (some (.inl (n2 + (c_now_items n3.toNatClampNeg), n3 + 1))))
def f_X7_boxBound (v1 : Int32) (c_now_itemCount : Int32) (c_now_items : Nat → Int32) : Option ((Except String Int32)) :=
  bnd1 (f_X7_needRange v1 1 40) (fun r1 => mx r1 (fun E3 => some (.error E3)) (fun _ =>
  ((bnd1 (loop (fun z => f_X7_boxBound_L11 v1 c_now_itemCount c_now_items z.1 z.2) fu (0, 0)) fun m7 =>
  gz v1 (some (.ok (((m7 + v1) - 1) / v1)))))))
set_option maxHeartbeats 4000000 in
set_option maxRecDepth 100000 in
theorem k_X7_boxBound (l : Launch) (hl0 : l.stackTraces = false) (D : va_G) (cI cJ cZ cS : ClassId) (B0 : Nat) (H0 : Heap) (a0 a_now a_past a_plan a_picker a_rest a_packed a_now_items a_now_books a_now_terms a_now_shelves a_now_lots a_now_orders : Nat) (c_acts : Int32) (c_nextSlot : Int32) (c_now_today : Int32) (c_now_products : Int32) (c_now_itemCount : Int32) (c_now_items : Nat → Int32) (v1 : Int32) (r9 : Except String Int32)  (hf : f_X7_boxBound v1 c_now_itemCount c_now_items = some r9) : vx_Met l yX7_boxBound (wz yX7_boxBound cX7_boxBound 4 (some .int)) ({ frames := 7, cells := 1, slots := 6, locals := 112 }) (va_Pc [.ref a0, .int v1] (rp D cI cJ cZ cS B0 [oX7 a0 a_now a_past c_acts c_nextSlot a_plan a_picker a_rest a_packed, oX6 a_now c_now_today c_now_products c_now_itemCount a_now_items a_now_books a_now_terms a_now_shelves a_now_lots a_now_orders, rI cI a_now_items 8 c_now_items] H0)) (va_Qi (fun (r2 : Int32) (_ : Unit) => r9 = .ok r2) (fun _ t => t.heap = H0) (fun q => H0.size ≤ q)) (vx_X (fun (_ : Unit) => True) (fun E _ _ => r9 = .error E) (fun q => H0.size ≤ q)) 1 6 (fun q => H0.size ≤ q) := by
  refine vx_ofW (cc := cX7_boxBound) (maxL := 4) (ret := (some .int)) (by decide +kernel) rfl ?_
  intro p e s m args below meth c s₁ B hml hno hv
  obtain ⟨rfl, hH, hP, hK, hB0, hE⟩ := hv
  subst hH
  have hx := B.exec
  have hb := B.bytes
  have hr := B.returns
  have hts := atoms_spec (ws := (wz yX7_boxBound cX7_boxBound 4 (some .int))) B.pre
  have hown : s.vm.findClass RX7 = some m.cls := findClass_of_methodNamed B.named
  have hlocks := B.notSynchronized
  have hAB : ∀ q : Nat, s.heap.size ≤ q → B0 ≤ q := fun q h => Nat.le_trans hB0 h
  have hA : ∀ q : Nat, s.heap.size ≤ q → s.heap.size ≤ q := fun _ h => h
  have hS : va_S (fun q => s.heap.size ≤ q) s.heap s.heap [] := va_S.rf
  have hBn := fun (H : Heap) (locs : List Loc) (h : va_S (fun q => s.heap.size ≤ q) s.heap H locs) => Nat.le_trans hB0 h.1
  have hEn := fun (H : Heap) (locs : List Loc) (h : va_S (fun q => s.heap.size ≤ q) s.heap H locs) => gE_now hE h hAB
  have hl := lv_entry ([.ref a0, .int v1]) (n := 4) (Nat.le_of_ble_eq_true rfl)
  rw [lg_entry_eq]
  generalize (lg_sl ([.ref a0, .int v1]) ++ List.replicate (4 - (lg_sl ([.ref a0, .int v1])).length) Slot.unset).toArray = ls at hl ⊢
  have hl : lv_has ls 4 [(0, .ref a0), (1, .int v1)] := hl
  obtain ⟨H, hHe⟩ : ∃ H : Heap, H = s.heap := ⟨_, rfl⟩
  have hP : va_P D vwCl [oX7 a0 a_now a_past c_acts c_nextSlot a_plan a_picker a_rest a_packed, oX6 a_now c_now_today c_now_products c_now_itemCount a_now_items a_now_books a_now_terms a_now_shelves a_now_lots a_now_orders, rI cI a_now_items 8 c_now_items] H := by rw [hHe]; exact hP
  have hS : va_S (fun q => s.heap.size ≤ q) s.heap H [] := by rw [hHe]; exact hS
  refine W_heq hHe ?_
  unfold f_X7_boxBound at hf
  refine gen_go (fun WW hWW => ?_)
  have hL11 : ∀ (n : Nat) (n1 : Int32) (n2 : Int32) (n3 : Int32) (e2 : Int32), loop (fun z => f_X7_boxBound_L11 n1 c_now_itemCount c_now_items z.1 z.2) n (n2, n3) = some e2 → (∀ (ls : Array Slot), lv_has ls 4 [(1, .int n1), (2, .int e2)] → WW (F0 m 40 ls [])) → ∀ (ls : Array Slot), lv_has ls 4 [(0, .ref a0), (1, .int n1), (2, .int n2), (3, .int n3)] → WW (F0 m 11 ls []) := by
    intro n
    induction n with
    | zero =>
      intro n1 n2 n3 e2 hlp
      exact absurd hlp (by simp [loop])
    | succ n ih =>
      intro n1 n2 n3 e2 hlp K ls hl
      obtain ⟨x9, hf, hlp⟩ := loop_s hlp
      have hf : f_X7_boxBound_L11 n1 c_now_itemCount c_now_items n2 n3 = some x9 := hf
      unfold f_X7_boxBound_L11 at hf
      refine (hWW _).mpr ?_
      refine lv_iload_n hx hb dX7_boxBound_11 rfl (lv_at hl 3 rfl) ?_
      refine lv_aload_n hx hb dX7_boxBound_12 rfl (lv_at hl 0 rfl) ?_
      refine va_get (D := D) (ci := 6) (v := .ref a_now) (C := RX7) (T := TX7) (N := 8) hx hb hts (fun w h => mb (iX7 w h)) hown hK hP 0 rfl rfl 0 (by decide) (hts _ (mb tb_270)) (fun _ h9 => h9) rfl dX7_boxBound_13 ?_
      refine va_get (D := D) (ci := 5) (v := .int c_now_itemCount) (C := RX6) (T := TX6) (N := 9) hx hb hts (fun w h => mb (iX6 w h)) hown hK hP 1 rfl rfl 2 (by decide) (hts _ (mb tb_161)) (fun _ h9 => h9) rfl dX7_boxBound_16 ?_
      refine lv_icmp_ge (tgt := 40) hx hb dX7_boxBound_19 (by decide) (fun h4 => ?_) (fun h4 => ?_)
      · have hf := ipos h4 hf
        obtain rfl := Option.some.inj hf
        cases lpx_r hlp
        exact (hWW _).mp (K ls (lv_sub hl [1, 2] rfl))
      · have hf := ineg h4 hf
        refine lv_iload_n hx hb dX7_boxBound_22 rfl (lv_at hl 2 rfl) ?_
        refine lv_aload_n hx hb dX7_boxBound_23 rfl (lv_at hl 0 rfl) ?_
        refine va_get (D := D) (ci := 6) (v := .ref a_now) (C := RX7) (T := TX7) (N := 8) hx hb hts (fun w h => mb (iX7 w h)) hown hK hP 0 rfl rfl 0 (by decide) (hts _ (mb tb_270)) (fun _ h9 => h9) rfl dX7_boxBound_24 ?_
        refine va_get (D := D) (ci := 5) (v := .ref a_now_items) (C := RX6) (T := TX6) (N := 9) hx hb hts (fun w h => mb (iX6 w h)) hown hK hP 1 rfl rfl 3 (by decide) (hts _ (mb tb_163)) (fun _ h9 => h9) rfl dX7_boxBound_27 ?_
        refine lv_iload_n hx hb dX7_boxBound_30 rfl (lv_at hl 3 rfl) ?_
        obtain ⟨h5, hf⟩ := ob_d hf
        refine va_iald hx hb hK hP 2 0 rfl rfl h5 dX7_boxBound_31 ?_
        refine lv_iadd hx hb dX7_boxBound_32 ?_
        refine lv_istore_n (lv' := [(2, .int (n2 + (c_now_items n3.toNatClampNeg))), (0, .ref a0), (1, .int n1), (3, .int n3)]) hx hb dX7_boxBound_33 rfl hl (by decide) rfl (fun ls hl => ?_)
        refine lv_iinc (v := (n3 + 1)) (lv' := [(3, .int (n3 + 1)), (2, .int (n2 + (c_now_items n3.toNatClampNeg))), (0, .ref a0), (1, .int n1)]) hx hb dX7_boxBound_34 hl (k := 3) rfl rfl (by decide) rfl (fun ls hl => ?_)
        refine lv_goto (tgt := 11) hx hb dX7_boxBound_37 (by decide) ?_
        obtain rfl := Option.some.inj hf
        exact (hWW _).mp (ih _ _ _ _ hlp K ls (lv_sub hl [2, 3, 1, 0] rfl))
  refine (hWW _).mpr ?_
  refine lv_iload_n hx hb dX7_boxBound_0 rfl (lv_at hl 1 rfl) ?_
  refine lv_iconst (v := 1) hx hb dX7_boxBound_1 (by decide) ?_
  refine lv_bipush (v := 40) hx hb dX7_boxBound_2 (by decide) ?_
  obtain ⟨r1, hc2, hf⟩ := ob1 hf
  refine rx_callv (r9 := r1) (vx_runS (As := [.int v1, .int 1, .int 40]) (rest := []) ⟨hx, hb, hml, hown, hts⟩ (k_X7_needRange l hl0 D cI cJ cZ cS B0 H v1 1 40 r1 hc2) (va_cwS 3 hts (gS tb_492 tb_493 tb_1 tb_494) rfl rfl rfl (by decide +kernel) ⟨Nat.le_of_ble_eq_true rfl, Nat.le_of_ble_eq_true rfl⟩) ⟨rp_blind, rp_pre (hP.sub [] rfl) hK (hBn _ _ hS) (hEn _ _ hS)⟩ rfl rfl hl.1 rfl (lv_room (Nat.le_of_ble_eq_true rfl)) dX7_boxBound_4 ⟨Nat.le_of_ble_eq_true rfl, Nat.le_of_ble_eq_true rfl⟩) hS hA (fun E3 ce q9 H1 locs1 hE9 hz9 hk9 hS hq9 hv9 hcl9 => ?_) (fun hr9 => ?_)
  · subst hE9
    have hf := mx_e hf
    cases hf
    exact vx_out (fun x hx => (hno x hx).elim) hlocks hq9 hv9 hcl9 (fun t ht hal => ⟨(), trivial, rfl, hS.F ht⟩) hS.2.2 (Nat.le_of_ble_eq_true rfl) (Nat.le_of_ble_eq_true rfl)
  · subst hr9
    have hf := mx_o hf
    refine lv_iconst (v := 0) hx hb dX7_boxBound_7 (by decide) ?_
    refine lv_istore_n (lv' := [(2, .int 0), (0, .ref a0), (1, .int v1)]) hx hb dX7_boxBound_8 rfl hl (by decide) rfl (fun ls hl => ?_)
    refine lv_iconst (v := 0) hx hb dX7_boxBound_9 (by decide) ?_
    refine lv_istore_n (lv' := [(3, .int 0), (2, .int 0), (0, .ref a0), (1, .int v1)]) hx hb dX7_boxBound_10 rfl hl (by decide) rfl (fun ls hl => ?_)
    obtain ⟨m7, hc6, hf⟩ := ob1 hf
    refine (hWW _).mp (hL11 fu _ _ _ _ hc6 (fun ls hl => ?_) ls (lv_sub hl [2, 3, 1, 0] rfl))
    · refine (hWW _).mpr ?_
      refine lv_iload_n hx hb dX7_boxBound_40 rfl (lv_at hl 1 rfl) ?_
      refine lv_iload_n hx hb dX7_boxBound_41 rfl (lv_at hl 0 rfl) ?_
      refine lv_iadd hx hb dX7_boxBound_42 ?_
      refine lv_iconst (v := 1) hx hb dX7_boxBound_43 (by decide) ?_
      refine lv_isub hx hb dX7_boxBound_44 ?_
      refine lv_iload_n hx hb dX7_boxBound_45 rfl (lv_at hl 0 rfl) ?_
      obtain ⟨h8, hf⟩ := ob_z hf
      refine lv_idiv hx hb dX7_boxBound_46 h8 ?_
      cases hf
      refine vx_ret ?_
      refine W.widen (k := 1) (n := 6) (Nat.le_of_ble_eq_true rfl) (Nat.le_of_ble_eq_true rfl) ?_
      exact W.iret hx hb hr (fun t ht hW => ⟨⟨_, (), rfl, rfl, (ht.trans hHe)⟩, hS.F ht⟩) hS.2.2 dX7_boxBound_47
def f_X7_lowBound (v1 : Int32) (c_now_terms : Nat → Int32) (c_plan_terms : Nat → Int32) (c_plan_low : Nat → Int32) (c_plan_high : Nat → Int32) (c_plan_bottom : Nat → Int64) (c_plan_cost : Nat → Int64) (c_plan_act : Nat → Int32) : Option ((Except String Int32) × (Nat → Int32) × (Nat → Int32) × (Nat → Int32) × (Nat → Int64) × (Nat → Int64) × (Nat → Int32)) :=
  bnd1 (f_X7_needRange v1 1 5) (fun r1 => mx r1 (fun E3 => some (.error E3, c_plan_terms, c_plan_low, c_plan_high, c_plan_bottom, c_plan_cost, c_plan_act)) (fun _ =>
  (bnd6 (f_X4_solve c_plan_terms c_plan_low c_plan_high c_plan_bottom c_plan_cost c_plan_act c_now_terms) (fun o6 o7 o8 o9 o10 o11 =>
  (gd v1 6 (some (.ok (o7 v1.toNatClampNeg), o6, o7, o8, o9, o10, o11)))))))
set_option maxHeartbeats 4000000 in
set_option maxRecDepth 100000 in
theorem k_X7_lowBound (l : Launch) (hl0 : l.stackTraces = false) (D : va_G) (cI cJ cZ cS : ClassId) (B0 : Nat) (sz : Nat) (a0 a_now a_past a_plan a_picker a_rest a_packed a_now_items a_now_books a_now_terms a_now_shelves a_now_lots a_now_orders a_plan_terms a_plan_low a_plan_high a_plan_bottom a_plan_cost a_plan_act : Nat) (c_acts : Int32) (c_nextSlot : Int32) (c_now_today : Int32) (c_now_products : Int32) (c_now_itemCount : Int32) (c_now_terms : Nat → Int32) (c_plan_terms : Nat → Int32) (c_plan_low : Nat → Int32) (c_plan_high : Nat → Int32) (c_plan_bottom : Nat → Int64) (c_plan_cost : Nat → Int64) (c_plan_act : Nat → Int32) (v1 : Int32) (r9 : Except String Int32) (oc_plan_terms : Nat → Int32) (oc_plan_low : Nat → Int32) (oc_plan_high : Nat → Int32) (oc_plan_bottom : Nat → Int64) (oc_plan_cost : Nat → Int64) (oc_plan_act : Nat → Int32)  (hf : f_X7_lowBound v1 c_now_terms c_plan_terms c_plan_low c_plan_high c_plan_bottom c_plan_cost c_plan_act = some (r9, oc_plan_terms, oc_plan_low, oc_plan_high, oc_plan_bottom, oc_plan_cost, oc_plan_act)) : vx_Met l yX7_lowBound (wz yX7_lowBound cX7_lowBound 2 (some .int)) ({ frames := 7, cells := 1, slots := 6, locals := 148 }) (va_Pc [.ref a0, .int v1] (wp D cI cJ cZ cS B0 [oX7 a0 a_now a_past c_acts c_nextSlot a_plan a_picker a_rest a_packed, oX6 a_now c_now_today c_now_products c_now_itemCount a_now_items a_now_books a_now_terms a_now_shelves a_now_lots a_now_orders, rI cI a_now_terms 10 c_now_terms, oX4 a_plan a_plan_terms a_plan_low a_plan_high a_plan_bottom a_plan_cost a_plan_act, rI cI a_plan_terms 10 c_plan_terms, rI cI a_plan_low 6 c_plan_low, rI cI a_plan_high 6 c_plan_high, rJ cJ a_plan_bottom 6 c_plan_bottom, rJ cJ a_plan_cost 366 c_plan_cost, rI cI a_plan_act 366 c_plan_act] sz)) (va_Qi (fun (r2 : Int32) (_ : Unit) => r9 = .ok r2) (fun _ t => va_P D vwCl [oX7 a0 a_now a_past c_acts c_nextSlot a_plan a_picker a_rest a_packed, oX6 a_now c_now_today c_now_products c_now_itemCount a_now_items a_now_books a_now_terms a_now_shelves a_now_lots a_now_orders, rI cI a_now_terms 10 c_now_terms, oX4 a_plan a_plan_terms a_plan_low a_plan_high a_plan_bottom a_plan_cost a_plan_act, rI cI a_plan_terms 10 oc_plan_terms, rI cI a_plan_low 6 oc_plan_low, rI cI a_plan_high 6 oc_plan_high, rJ cJ a_plan_bottom 6 oc_plan_bottom, rJ cJ a_plan_cost 366 oc_plan_cost, rI cI a_plan_act 366 oc_plan_act] t.heap) (va_A [oX7 a0 a_now a_past c_acts c_nextSlot a_plan a_picker a_rest a_packed, oX6 a_now c_now_today c_now_products c_now_itemCount a_now_items a_now_books a_now_terms a_now_shelves a_now_lots a_now_orders, rI cI a_now_terms 10 c_now_terms, oX4 a_plan a_plan_terms a_plan_low a_plan_high a_plan_bottom a_plan_cost a_plan_act, rI cI a_plan_terms 10 c_plan_terms, rI cI a_plan_low 6 c_plan_low, rI cI a_plan_high 6 c_plan_high, rJ cJ a_plan_bottom 6 c_plan_bottom, rJ cJ a_plan_cost 366 c_plan_cost, rI cI a_plan_act 366 c_plan_act] sz)) (vx_X (fun (_ : Unit) => True) (fun E _ t => r9 = .error E ∧ va_P D vwCl [oX7 a0 a_now a_past c_acts c_nextSlot a_plan a_picker a_rest a_packed, oX6 a_now c_now_today c_now_products c_now_itemCount a_now_items a_now_books a_now_terms a_now_shelves a_now_lots a_now_orders, rI cI a_now_terms 10 c_now_terms, oX4 a_plan a_plan_terms a_plan_low a_plan_high a_plan_bottom a_plan_cost a_plan_act, rI cI a_plan_terms 10 oc_plan_terms, rI cI a_plan_low 6 oc_plan_low, rI cI a_plan_high 6 oc_plan_high, rJ cJ a_plan_bottom 6 oc_plan_bottom, rJ cJ a_plan_cost 366 oc_plan_cost, rI cI a_plan_act 366 oc_plan_act] t.heap) (va_A [oX7 a0 a_now a_past c_acts c_nextSlot a_plan a_picker a_rest a_packed, oX6 a_now c_now_today c_now_products c_now_itemCount a_now_items a_now_books a_now_terms a_now_shelves a_now_lots a_now_orders, rI cI a_now_terms 10 c_now_terms, oX4 a_plan a_plan_terms a_plan_low a_plan_high a_plan_bottom a_plan_cost a_plan_act, rI cI a_plan_terms 10 c_plan_terms, rI cI a_plan_low 6 c_plan_low, rI cI a_plan_high 6 c_plan_high, rJ cJ a_plan_bottom 6 c_plan_bottom, rJ cJ a_plan_cost 366 c_plan_cost, rI cI a_plan_act 366 c_plan_act] sz)) 1 6 (va_A [oX7 a0 a_now a_past c_acts c_nextSlot a_plan a_picker a_rest a_packed, oX6 a_now c_now_today c_now_products c_now_itemCount a_now_items a_now_books a_now_terms a_now_shelves a_now_lots a_now_orders, rI cI a_now_terms 10 c_now_terms, oX4 a_plan a_plan_terms a_plan_low a_plan_high a_plan_bottom a_plan_cost a_plan_act, rI cI a_plan_terms 10 c_plan_terms, rI cI a_plan_low 6 c_plan_low, rI cI a_plan_high 6 c_plan_high, rJ cJ a_plan_bottom 6 c_plan_bottom, rJ cJ a_plan_cost 366 c_plan_cost, rI cI a_plan_act 366 c_plan_act] sz) := by
  refine vx_ofW (cc := cX7_lowBound) (maxL := 2) (ret := (some .int)) (by decide +kernel) rfl ?_
  intro p e s m args below meth c s₁ B hml hno hv
  obtain ⟨rfl, hsz, hP, hK, hD0, hB0, hE⟩ := hv
  subst hsz
  have hx := B.exec
  have hb := B.bytes
  have hr := B.returns
  have hts := atoms_spec (ws := (wz yX7_lowBound cX7_lowBound 2 (some .int))) B.pre
  have hown : s.vm.findClass RX7 = some m.cls := findClass_of_methodNamed B.named
  have hlocks := B.notSynchronized
  have hD := hD0.self (sz := s.heap.size)
  have hAB : ∀ q : Nat, va_A [oX7 a0 a_now a_past c_acts c_nextSlot a_plan a_picker a_rest a_packed, oX6 a_now c_now_today c_now_products c_now_itemCount a_now_items a_now_books a_now_terms a_now_shelves a_now_lots a_now_orders, rI cI a_now_terms 10 c_now_terms, oX4 a_plan a_plan_terms a_plan_low a_plan_high a_plan_bottom a_plan_cost a_plan_act, rI cI a_plan_terms 10 c_plan_terms, rI cI a_plan_low 6 c_plan_low, rI cI a_plan_high 6 c_plan_high, rJ cJ a_plan_bottom 6 c_plan_bottom, rJ cJ a_plan_cost 366 c_plan_cost, rI cI a_plan_act 366 c_plan_act] s.heap.size q → B0 ≤ q := va_A_B hD0 hB0
  generalize hAe : va_A [oX7 a0 a_now a_past c_acts c_nextSlot a_plan a_picker a_rest a_packed, oX6 a_now c_now_today c_now_products c_now_itemCount a_now_items a_now_books a_now_terms a_now_shelves a_now_lots a_now_orders, rI cI a_now_terms 10 c_now_terms, oX4 a_plan a_plan_terms a_plan_low a_plan_high a_plan_bottom a_plan_cost a_plan_act, rI cI a_plan_terms 10 c_plan_terms, rI cI a_plan_low 6 c_plan_low, rI cI a_plan_high 6 c_plan_high, rJ cJ a_plan_bottom 6 c_plan_bottom, rJ cJ a_plan_cost 366 c_plan_cost, rI cI a_plan_act 366 c_plan_act] s.heap.size = A at hD hAB ⊢
  have hA : ∀ q : Nat, s.heap.size ≤ q → A q := fun q h => by rw [← hAe]; exact Or.inr h
  have hFa := hA
  have hS : va_S A s.heap s.heap [] := va_S.rf
  have hBn := fun (H : Heap) (locs : List Loc) (h : va_S A s.heap H locs) => Nat.le_trans hB0 h.1
  have hEn := fun (H : Heap) (locs : List Loc) (h : va_S A s.heap H locs) => gE_now hE h hAB
  have hl := lv_entry ([.ref a0, .int v1]) (n := 2) (Nat.le_of_ble_eq_true rfl)
  rw [lg_entry_eq]
  generalize (lg_sl ([.ref a0, .int v1]) ++ List.replicate (2 - (lg_sl ([.ref a0, .int v1])).length) Slot.unset).toArray = ls at hl ⊢
  have hl : lv_has ls 2 [(0, .ref a0), (1, .int v1)] := hl
  obtain ⟨H, hHe⟩ : ∃ H : Heap, H = s.heap := ⟨_, rfl⟩
  have hP : va_P D vwCl [oX7 a0 a_now a_past c_acts c_nextSlot a_plan a_picker a_rest a_packed, oX6 a_now c_now_today c_now_products c_now_itemCount a_now_items a_now_books a_now_terms a_now_shelves a_now_lots a_now_orders, rI cI a_now_terms 10 c_now_terms, oX4 a_plan a_plan_terms a_plan_low a_plan_high a_plan_bottom a_plan_cost a_plan_act, rI cI a_plan_terms 10 c_plan_terms, rI cI a_plan_low 6 c_plan_low, rI cI a_plan_high 6 c_plan_high, rJ cJ a_plan_bottom 6 c_plan_bottom, rJ cJ a_plan_cost 366 c_plan_cost, rI cI a_plan_act 366 c_plan_act] H := by rw [hHe]; exact hP
  have hS : va_S A s.heap H [] := by rw [hHe]; exact hS
  refine W_heq hHe ?_
  unfold f_X7_lowBound at hf
  refine lv_iload_n hx hb dX7_lowBound_0 rfl (lv_at hl 1 rfl) ?_
  refine lv_iconst (v := 1) hx hb dX7_lowBound_1 (by decide) ?_
  refine lv_iconst (v := 5) hx hb dX7_lowBound_2 (by decide) ?_
  obtain ⟨r1, hc2, hf⟩ := ob1 hf
  refine rx_callv (r9 := r1) (vx_runS (As := [.int v1, .int 1, .int 5]) (rest := []) ⟨hx, hb, hml, hown, hts⟩ (k_X7_needRange l hl0 D cI cJ cZ cS B0 H v1 1 5 r1 hc2) (va_cwS 3 hts (gS tb_492 tb_493 tb_1 tb_494) rfl rfl rfl (by decide +kernel) ⟨Nat.le_of_ble_eq_true rfl, Nat.le_of_ble_eq_true rfl⟩) ⟨rp_blind, rp_pre (hP.sub [] rfl) hK (hBn _ _ hS) (hEn _ _ hS)⟩ rfl rfl hl.1 rfl (lv_room (Nat.le_of_ble_eq_true rfl)) dX7_lowBound_3 ⟨Nat.le_of_ble_eq_true rfl, Nat.le_of_ble_eq_true rfl⟩) hS hA (fun E3 ce q9 H1 locs1 hE9 hz9 hk9 hS hq9 hv9 hcl9 => ?_) (fun hr9 => ?_)
  · subst hE9
    have hf := mx_e hf
    cases hf
    exact vx_out (fun x hx => (hno x hx).elim) hlocks hq9 hv9 hcl9 (fun t ht hal => ⟨(), trivial, ⟨rfl, (by show va_P D vwCl _ t.heap; rw [ht]; exact va_Pk hP hk9)⟩, hS.F ht⟩) hS.2.2 (Nat.le_of_ble_eq_true rfl) (Nat.le_of_ble_eq_true rfl)
  · subst hr9
    have hf := mx_o hf
    refine lv_aload_n hx hb dX7_lowBound_6 rfl (lv_at hl 0 rfl) ?_
    refine va_get (D := D) (ci := 6) (v := .ref a_plan) (C := RX7) (T := TX7) (N := 8) hx hb hts (fun w h => mb (iX7 w h)) hown hK hP 0 rfl rfl 4 (by decide) (hts _ (mb tb_274)) (fun _ h9 => h9) rfl dX7_lowBound_7 ?_
    refine lv_aload_n hx hb dX7_lowBound_10 rfl (lv_at hl 0 rfl) ?_
    refine va_get (D := D) (ci := 6) (v := .ref a_now) (C := RX7) (T := TX7) (N := 8) hx hb hts (fun w h => mb (iX7 w h)) hown hK hP 0 rfl rfl 0 (by decide) (hts _ (mb tb_270)) (fun _ h9 => h9) rfl dX7_lowBound_11 ?_
    refine va_get (D := D) (ci := 5) (v := .ref a_now_terms) (C := RX6) (T := TX6) (N := 9) hx hb hts (fun w h => mb (iX6 w h)) hown hK hP 1 rfl rfl 5 (by decide) (hts _ (mb tb_167)) (fun _ h9 => h9) rfl dX7_lowBound_14 ?_
    obtain ⟨o6, o7, o8, o9, o10, o11, hc5, hf⟩ := ob6 hf
    refine rw_callv (va_runV (As := [.ref a_now_terms]) (rest := []) ⟨hx, hb, hml, hown, hts⟩ (k_X4_solve l hl0 D cI cJ cZ cS B0 H.size a_plan a_plan_terms a_plan_low a_plan_high a_plan_bottom a_plan_cost a_plan_act a_now_terms c_plan_terms c_plan_low c_plan_high c_plan_bottom c_plan_cost c_plan_act c_now_terms o6 o7 o8 o9 o10 o11 hc5) (cwV 1 hts (gV tb_459 tb_460 tb_461 tb_6 tb_462) rfl rfl rfl (by decide +kernel) ⟨Nat.le_of_ble_eq_true rfl, Nat.le_of_ble_eq_true rfl⟩) ⟨wp_blind, va_recv hK hP (ci := 3) (q0 := 3) rfl rfl, wp_pre (hP.sub [3, 4, 5, 6, 7, 8, 9, 2] rfl) hK (va_D.sub (hD.weaken (fun _ _ _ h9 => hAB _ h9)) [3, 4, 5, 6, 7, 8, 9, 2] rfl rfl) (hBn _ _ hS) (hEn _ _ hS)⟩ rfl rfl hl.1 rfl (lv_room (Nat.le_of_ble_eq_true rfl)) dX7_lowBound_17 ⟨Nat.le_of_ble_eq_true rfl, Nat.le_of_ble_eq_true rfl⟩) hP hD hS hA [oX7 a0 a_now a_past c_acts c_nextSlot a_plan a_picker a_rest a_packed, oX6 a_now c_now_today c_now_products c_now_itemCount a_now_items a_now_books a_now_terms a_now_shelves a_now_lots a_now_orders, rI cI a_now_terms 10 c_now_terms, oX4 a_plan a_plan_terms a_plan_low a_plan_high a_plan_bottom a_plan_cost a_plan_act, rI cI a_plan_terms 10 o6, rI cI a_plan_low 6 o7, rI cI a_plan_high 6 o8, rJ cJ a_plan_bottom 6 o9, rJ cJ a_plan_cost 366 o10, rI cI a_plan_act 366 o11] 10 [3, 4, 5, 6, 7, 8, 9, 2] [0, 1] rfl rfl rfl rfl (by decide +kernel) rfl (fun H locs hP hD hS => ?_)
    refine lv_aload_n hx hb dX7_lowBound_20 rfl (lv_at hl 0 rfl) ?_
    refine va_get (D := D) (ci := 6) (v := .ref a_plan) (C := RX7) (T := TX7) (N := 8) hx hb hts (fun w h => mb (iX7 w h)) hown hK hP 0 rfl rfl 4 (by decide) (hts _ (mb tb_274)) (fun _ h9 => h9) rfl dX7_lowBound_21 ?_
    refine va_get (D := D) (ci := 3) (v := .ref a_plan_low) (C := RX4) (T := TX4) (N := 6) hx hb hts (fun w h => mb (iX4 w h)) hown hK hP 3 rfl rfl 1 (by decide) (hts _ (mb tb_202)) (fun _ h9 => h9) rfl dX7_lowBound_24 ?_
    refine lv_iload_n hx hb dX7_lowBound_27 rfl (lv_at hl 1 rfl) ?_
    obtain ⟨h12, hf⟩ := ob_d hf
    refine va_iald hx hb hK hP 5 0 rfl rfl h12 dX7_lowBound_28 ?_
    cases hf
    refine vx_ret ?_
    refine W.widen (k := 1) (n := 6) (Nat.le_of_ble_eq_true rfl) (Nat.le_of_ble_eq_true rfl) ?_
    exact W.iret hx hb hr (fun t ht hW => ⟨⟨_, (), rfl, rfl, (by show va_P D vwCl _ t.heap; rw [ht]; exact hP)⟩, hS.F ht⟩) hS.2.2 dX7_lowBound_29
def f_X7_highBound (v1 : Int32) (c_now_terms : Nat → Int32) (c_plan_terms : Nat → Int32) (c_plan_low : Nat → Int32) (c_plan_high : Nat → Int32) (c_plan_bottom : Nat → Int64) (c_plan_cost : Nat → Int64) (c_plan_act : Nat → Int32) : Option ((Except String Int32) × (Nat → Int32) × (Nat → Int32) × (Nat → Int32) × (Nat → Int64) × (Nat → Int64) × (Nat → Int32)) :=
  bnd1 (f_X7_needRange v1 1 5) (fun r1 => mx r1 (fun E3 => some (.error E3, c_plan_terms, c_plan_low, c_plan_high, c_plan_bottom, c_plan_cost, c_plan_act)) (fun _ =>
  (bnd6 (f_X4_solve c_plan_terms c_plan_low c_plan_high c_plan_bottom c_plan_cost c_plan_act c_now_terms) (fun o6 o7 o8 o9 o10 o11 =>
  (gd v1 6 (some (.ok (o8 v1.toNatClampNeg), o6, o7, o8, o9, o10, o11)))))))
set_option maxHeartbeats 4000000 in
set_option maxRecDepth 100000 in
theorem k_X7_highBound (l : Launch) (hl0 : l.stackTraces = false) (D : va_G) (cI cJ cZ cS : ClassId) (B0 : Nat) (sz : Nat) (a0 a_now a_past a_plan a_picker a_rest a_packed a_now_items a_now_books a_now_terms a_now_shelves a_now_lots a_now_orders a_plan_terms a_plan_low a_plan_high a_plan_bottom a_plan_cost a_plan_act : Nat) (c_acts : Int32) (c_nextSlot : Int32) (c_now_today : Int32) (c_now_products : Int32) (c_now_itemCount : Int32) (c_now_terms : Nat → Int32) (c_plan_terms : Nat → Int32) (c_plan_low : Nat → Int32) (c_plan_high : Nat → Int32) (c_plan_bottom : Nat → Int64) (c_plan_cost : Nat → Int64) (c_plan_act : Nat → Int32) (v1 : Int32) (r9 : Except String Int32) (oc_plan_terms : Nat → Int32) (oc_plan_low : Nat → Int32) (oc_plan_high : Nat → Int32) (oc_plan_bottom : Nat → Int64) (oc_plan_cost : Nat → Int64) (oc_plan_act : Nat → Int32)  (hf : f_X7_highBound v1 c_now_terms c_plan_terms c_plan_low c_plan_high c_plan_bottom c_plan_cost c_plan_act = some (r9, oc_plan_terms, oc_plan_low, oc_plan_high, oc_plan_bottom, oc_plan_cost, oc_plan_act)) : vx_Met l yX7_highBound (wz yX7_highBound cX7_highBound 2 (some .int)) ({ frames := 7, cells := 1, slots := 6, locals := 148 }) (va_Pc [.ref a0, .int v1] (wp D cI cJ cZ cS B0 [oX7 a0 a_now a_past c_acts c_nextSlot a_plan a_picker a_rest a_packed, oX6 a_now c_now_today c_now_products c_now_itemCount a_now_items a_now_books a_now_terms a_now_shelves a_now_lots a_now_orders, rI cI a_now_terms 10 c_now_terms, oX4 a_plan a_plan_terms a_plan_low a_plan_high a_plan_bottom a_plan_cost a_plan_act, rI cI a_plan_terms 10 c_plan_terms, rI cI a_plan_low 6 c_plan_low, rI cI a_plan_high 6 c_plan_high, rJ cJ a_plan_bottom 6 c_plan_bottom, rJ cJ a_plan_cost 366 c_plan_cost, rI cI a_plan_act 366 c_plan_act] sz)) (va_Qi (fun (r2 : Int32) (_ : Unit) => r9 = .ok r2) (fun _ t => va_P D vwCl [oX7 a0 a_now a_past c_acts c_nextSlot a_plan a_picker a_rest a_packed, oX6 a_now c_now_today c_now_products c_now_itemCount a_now_items a_now_books a_now_terms a_now_shelves a_now_lots a_now_orders, rI cI a_now_terms 10 c_now_terms, oX4 a_plan a_plan_terms a_plan_low a_plan_high a_plan_bottom a_plan_cost a_plan_act, rI cI a_plan_terms 10 oc_plan_terms, rI cI a_plan_low 6 oc_plan_low, rI cI a_plan_high 6 oc_plan_high, rJ cJ a_plan_bottom 6 oc_plan_bottom, rJ cJ a_plan_cost 366 oc_plan_cost, rI cI a_plan_act 366 oc_plan_act] t.heap) (va_A [oX7 a0 a_now a_past c_acts c_nextSlot a_plan a_picker a_rest a_packed, oX6 a_now c_now_today c_now_products c_now_itemCount a_now_items a_now_books a_now_terms a_now_shelves a_now_lots a_now_orders, rI cI a_now_terms 10 c_now_terms, oX4 a_plan a_plan_terms a_plan_low a_plan_high a_plan_bottom a_plan_cost a_plan_act, rI cI a_plan_terms 10 c_plan_terms, rI cI a_plan_low 6 c_plan_low, rI cI a_plan_high 6 c_plan_high, rJ cJ a_plan_bottom 6 c_plan_bottom, rJ cJ a_plan_cost 366 c_plan_cost, rI cI a_plan_act 366 c_plan_act] sz)) (vx_X (fun (_ : Unit) => True) (fun E _ t => r9 = .error E ∧ va_P D vwCl [oX7 a0 a_now a_past c_acts c_nextSlot a_plan a_picker a_rest a_packed, oX6 a_now c_now_today c_now_products c_now_itemCount a_now_items a_now_books a_now_terms a_now_shelves a_now_lots a_now_orders, rI cI a_now_terms 10 c_now_terms, oX4 a_plan a_plan_terms a_plan_low a_plan_high a_plan_bottom a_plan_cost a_plan_act, rI cI a_plan_terms 10 oc_plan_terms, rI cI a_plan_low 6 oc_plan_low, rI cI a_plan_high 6 oc_plan_high, rJ cJ a_plan_bottom 6 oc_plan_bottom, rJ cJ a_plan_cost 366 oc_plan_cost, rI cI a_plan_act 366 oc_plan_act] t.heap) (va_A [oX7 a0 a_now a_past c_acts c_nextSlot a_plan a_picker a_rest a_packed, oX6 a_now c_now_today c_now_products c_now_itemCount a_now_items a_now_books a_now_terms a_now_shelves a_now_lots a_now_orders, rI cI a_now_terms 10 c_now_terms, oX4 a_plan a_plan_terms a_plan_low a_plan_high a_plan_bottom a_plan_cost a_plan_act, rI cI a_plan_terms 10 c_plan_terms, rI cI a_plan_low 6 c_plan_low, rI cI a_plan_high 6 c_plan_high, rJ cJ a_plan_bottom 6 c_plan_bottom, rJ cJ a_plan_cost 366 c_plan_cost, rI cI a_plan_act 366 c_plan_act] sz)) 1 6 (va_A [oX7 a0 a_now a_past c_acts c_nextSlot a_plan a_picker a_rest a_packed, oX6 a_now c_now_today c_now_products c_now_itemCount a_now_items a_now_books a_now_terms a_now_shelves a_now_lots a_now_orders, rI cI a_now_terms 10 c_now_terms, oX4 a_plan a_plan_terms a_plan_low a_plan_high a_plan_bottom a_plan_cost a_plan_act, rI cI a_plan_terms 10 c_plan_terms, rI cI a_plan_low 6 c_plan_low, rI cI a_plan_high 6 c_plan_high, rJ cJ a_plan_bottom 6 c_plan_bottom, rJ cJ a_plan_cost 366 c_plan_cost, rI cI a_plan_act 366 c_plan_act] sz) := by
  refine vx_ofW (cc := cX7_highBound) (maxL := 2) (ret := (some .int)) (by decide +kernel) rfl ?_
  intro p e s m args below meth c s₁ B hml hno hv
  obtain ⟨rfl, hsz, hP, hK, hD0, hB0, hE⟩ := hv
  subst hsz
  have hx := B.exec
  have hb := B.bytes
  have hr := B.returns
  have hts := atoms_spec (ws := (wz yX7_highBound cX7_highBound 2 (some .int))) B.pre
  have hown : s.vm.findClass RX7 = some m.cls := findClass_of_methodNamed B.named
  have hlocks := B.notSynchronized
  have hD := hD0.self (sz := s.heap.size)
  have hAB : ∀ q : Nat, va_A [oX7 a0 a_now a_past c_acts c_nextSlot a_plan a_picker a_rest a_packed, oX6 a_now c_now_today c_now_products c_now_itemCount a_now_items a_now_books a_now_terms a_now_shelves a_now_lots a_now_orders, rI cI a_now_terms 10 c_now_terms, oX4 a_plan a_plan_terms a_plan_low a_plan_high a_plan_bottom a_plan_cost a_plan_act, rI cI a_plan_terms 10 c_plan_terms, rI cI a_plan_low 6 c_plan_low, rI cI a_plan_high 6 c_plan_high, rJ cJ a_plan_bottom 6 c_plan_bottom, rJ cJ a_plan_cost 366 c_plan_cost, rI cI a_plan_act 366 c_plan_act] s.heap.size q → B0 ≤ q := va_A_B hD0 hB0
  generalize hAe : va_A [oX7 a0 a_now a_past c_acts c_nextSlot a_plan a_picker a_rest a_packed, oX6 a_now c_now_today c_now_products c_now_itemCount a_now_items a_now_books a_now_terms a_now_shelves a_now_lots a_now_orders, rI cI a_now_terms 10 c_now_terms, oX4 a_plan a_plan_terms a_plan_low a_plan_high a_plan_bottom a_plan_cost a_plan_act, rI cI a_plan_terms 10 c_plan_terms, rI cI a_plan_low 6 c_plan_low, rI cI a_plan_high 6 c_plan_high, rJ cJ a_plan_bottom 6 c_plan_bottom, rJ cJ a_plan_cost 366 c_plan_cost, rI cI a_plan_act 366 c_plan_act] s.heap.size = A at hD hAB ⊢
  have hA : ∀ q : Nat, s.heap.size ≤ q → A q := fun q h => by rw [← hAe]; exact Or.inr h
  have hFa := hA
  have hS : va_S A s.heap s.heap [] := va_S.rf
  have hBn := fun (H : Heap) (locs : List Loc) (h : va_S A s.heap H locs) => Nat.le_trans hB0 h.1
  have hEn := fun (H : Heap) (locs : List Loc) (h : va_S A s.heap H locs) => gE_now hE h hAB
  have hl := lv_entry ([.ref a0, .int v1]) (n := 2) (Nat.le_of_ble_eq_true rfl)
  rw [lg_entry_eq]
  generalize (lg_sl ([.ref a0, .int v1]) ++ List.replicate (2 - (lg_sl ([.ref a0, .int v1])).length) Slot.unset).toArray = ls at hl ⊢
  have hl : lv_has ls 2 [(0, .ref a0), (1, .int v1)] := hl
  obtain ⟨H, hHe⟩ : ∃ H : Heap, H = s.heap := ⟨_, rfl⟩
  have hP : va_P D vwCl [oX7 a0 a_now a_past c_acts c_nextSlot a_plan a_picker a_rest a_packed, oX6 a_now c_now_today c_now_products c_now_itemCount a_now_items a_now_books a_now_terms a_now_shelves a_now_lots a_now_orders, rI cI a_now_terms 10 c_now_terms, oX4 a_plan a_plan_terms a_plan_low a_plan_high a_plan_bottom a_plan_cost a_plan_act, rI cI a_plan_terms 10 c_plan_terms, rI cI a_plan_low 6 c_plan_low, rI cI a_plan_high 6 c_plan_high, rJ cJ a_plan_bottom 6 c_plan_bottom, rJ cJ a_plan_cost 366 c_plan_cost, rI cI a_plan_act 366 c_plan_act] H := by rw [hHe]; exact hP
  have hS : va_S A s.heap H [] := by rw [hHe]; exact hS
  refine W_heq hHe ?_
  unfold f_X7_highBound at hf
  refine lv_iload_n hx hb dX7_highBound_0 rfl (lv_at hl 1 rfl) ?_
  refine lv_iconst (v := 1) hx hb dX7_highBound_1 (by decide) ?_
  refine lv_iconst (v := 5) hx hb dX7_highBound_2 (by decide) ?_
  obtain ⟨r1, hc2, hf⟩ := ob1 hf
  refine rx_callv (r9 := r1) (vx_runS (As := [.int v1, .int 1, .int 5]) (rest := []) ⟨hx, hb, hml, hown, hts⟩ (k_X7_needRange l hl0 D cI cJ cZ cS B0 H v1 1 5 r1 hc2) (va_cwS 3 hts (gS tb_492 tb_493 tb_1 tb_494) rfl rfl rfl (by decide +kernel) ⟨Nat.le_of_ble_eq_true rfl, Nat.le_of_ble_eq_true rfl⟩) ⟨rp_blind, rp_pre (hP.sub [] rfl) hK (hBn _ _ hS) (hEn _ _ hS)⟩ rfl rfl hl.1 rfl (lv_room (Nat.le_of_ble_eq_true rfl)) dX7_highBound_3 ⟨Nat.le_of_ble_eq_true rfl, Nat.le_of_ble_eq_true rfl⟩) hS hA (fun E3 ce q9 H1 locs1 hE9 hz9 hk9 hS hq9 hv9 hcl9 => ?_) (fun hr9 => ?_)
  · subst hE9
    have hf := mx_e hf
    cases hf
    exact vx_out (fun x hx => (hno x hx).elim) hlocks hq9 hv9 hcl9 (fun t ht hal => ⟨(), trivial, ⟨rfl, (by show va_P D vwCl _ t.heap; rw [ht]; exact va_Pk hP hk9)⟩, hS.F ht⟩) hS.2.2 (Nat.le_of_ble_eq_true rfl) (Nat.le_of_ble_eq_true rfl)
  · subst hr9
    have hf := mx_o hf
    refine lv_aload_n hx hb dX7_highBound_6 rfl (lv_at hl 0 rfl) ?_
    refine va_get (D := D) (ci := 6) (v := .ref a_plan) (C := RX7) (T := TX7) (N := 8) hx hb hts (fun w h => mb (iX7 w h)) hown hK hP 0 rfl rfl 4 (by decide) (hts _ (mb tb_274)) (fun _ h9 => h9) rfl dX7_highBound_7 ?_
    refine lv_aload_n hx hb dX7_highBound_10 rfl (lv_at hl 0 rfl) ?_
    refine va_get (D := D) (ci := 6) (v := .ref a_now) (C := RX7) (T := TX7) (N := 8) hx hb hts (fun w h => mb (iX7 w h)) hown hK hP 0 rfl rfl 0 (by decide) (hts _ (mb tb_270)) (fun _ h9 => h9) rfl dX7_highBound_11 ?_
    refine va_get (D := D) (ci := 5) (v := .ref a_now_terms) (C := RX6) (T := TX6) (N := 9) hx hb hts (fun w h => mb (iX6 w h)) hown hK hP 1 rfl rfl 5 (by decide) (hts _ (mb tb_167)) (fun _ h9 => h9) rfl dX7_highBound_14 ?_
    obtain ⟨o6, o7, o8, o9, o10, o11, hc5, hf⟩ := ob6 hf
    refine rw_callv (va_runV (As := [.ref a_now_terms]) (rest := []) ⟨hx, hb, hml, hown, hts⟩ (k_X4_solve l hl0 D cI cJ cZ cS B0 H.size a_plan a_plan_terms a_plan_low a_plan_high a_plan_bottom a_plan_cost a_plan_act a_now_terms c_plan_terms c_plan_low c_plan_high c_plan_bottom c_plan_cost c_plan_act c_now_terms o6 o7 o8 o9 o10 o11 hc5) (cwV 1 hts (gV tb_459 tb_460 tb_461 tb_6 tb_462) rfl rfl rfl (by decide +kernel) ⟨Nat.le_of_ble_eq_true rfl, Nat.le_of_ble_eq_true rfl⟩) ⟨wp_blind, va_recv hK hP (ci := 3) (q0 := 3) rfl rfl, wp_pre (hP.sub [3, 4, 5, 6, 7, 8, 9, 2] rfl) hK (va_D.sub (hD.weaken (fun _ _ _ h9 => hAB _ h9)) [3, 4, 5, 6, 7, 8, 9, 2] rfl rfl) (hBn _ _ hS) (hEn _ _ hS)⟩ rfl rfl hl.1 rfl (lv_room (Nat.le_of_ble_eq_true rfl)) dX7_highBound_17 ⟨Nat.le_of_ble_eq_true rfl, Nat.le_of_ble_eq_true rfl⟩) hP hD hS hA [oX7 a0 a_now a_past c_acts c_nextSlot a_plan a_picker a_rest a_packed, oX6 a_now c_now_today c_now_products c_now_itemCount a_now_items a_now_books a_now_terms a_now_shelves a_now_lots a_now_orders, rI cI a_now_terms 10 c_now_terms, oX4 a_plan a_plan_terms a_plan_low a_plan_high a_plan_bottom a_plan_cost a_plan_act, rI cI a_plan_terms 10 o6, rI cI a_plan_low 6 o7, rI cI a_plan_high 6 o8, rJ cJ a_plan_bottom 6 o9, rJ cJ a_plan_cost 366 o10, rI cI a_plan_act 366 o11] 10 [3, 4, 5, 6, 7, 8, 9, 2] [0, 1] rfl rfl rfl rfl (by decide +kernel) rfl (fun H locs hP hD hS => ?_)
    refine lv_aload_n hx hb dX7_highBound_20 rfl (lv_at hl 0 rfl) ?_
    refine va_get (D := D) (ci := 6) (v := .ref a_plan) (C := RX7) (T := TX7) (N := 8) hx hb hts (fun w h => mb (iX7 w h)) hown hK hP 0 rfl rfl 4 (by decide) (hts _ (mb tb_274)) (fun _ h9 => h9) rfl dX7_highBound_21 ?_
    refine va_get (D := D) (ci := 3) (v := .ref a_plan_high) (C := RX4) (T := TX4) (N := 6) hx hb hts (fun w h => mb (iX4 w h)) hown hK hP 3 rfl rfl 2 (by decide) (hts _ (mb tb_204)) (fun _ h9 => h9) rfl dX7_highBound_24 ?_
    refine lv_iload_n hx hb dX7_highBound_27 rfl (lv_at hl 1 rfl) ?_
    obtain ⟨h12, hf⟩ := ob_d hf
    refine va_iald hx hb hK hP 6 0 rfl rfl h12 dX7_highBound_28 ?_
    cases hf
    refine vx_ret ?_
    refine W.widen (k := 1) (n := 6) (Nat.le_of_ble_eq_true rfl) (Nat.le_of_ble_eq_true rfl) ?_
    exact W.iret hx hb hr (fun t ht hW => ⟨⟨_, (), rfl, rfl, (by show va_P D vwCl _ t.heap; rw [ht]; exact hP)⟩, hS.F ht⟩) hS.2.2 dX7_highBound_29
def f_X7_bestAct (v1 : Int32) (v2 : Int32) (c_now_terms : Nat → Int32) (c_plan_terms : Nat → Int32) (c_plan_low : Nat → Int32) (c_plan_high : Nat → Int32) (c_plan_bottom : Nat → Int64) (c_plan_cost : Nat → Int64) (c_plan_act : Nat → Int32) : Option ((Except String Int32) × (Nat → Int32) × (Nat → Int32) × (Nat → Int32) × (Nat → Int64) × (Nat → Int64) × (Nat → Int32)) :=
  bnd1 (f_X7_needRange v1 1 5) (fun r1 => mx r1 (fun E3 => some (.error E3, c_plan_terms, c_plan_low, c_plan_high, c_plan_bottom, c_plan_cost, c_plan_act)) (fun _ =>
  (gd 9 10 (bnd1 (f_X7_needRange v2 (-20) (c_now_terms (9 : Int32).toNatClampNeg)) (fun r5 => mx r5 (fun E7 => some (.error E7, c_plan_terms, c_plan_low, c_plan_high, c_plan_bottom, c_plan_cost, c_plan_act)) (fun _ =>
  (bnd6 (f_X4_solve c_plan_terms c_plan_low c_plan_high c_plan_bottom c_plan_cost c_plan_act c_now_terms) (fun o10 o11 o12 o13 o14 o15 =>
  (bnd1 (f_X4_cell v1 v2) (fun r16 =>
  (gd r16 366 (some (.ok (o15 r16.toNatClampNeg), o10, o11, o12, o13, o14, o15)))))))))))))
set_option maxHeartbeats 4000000 in
set_option maxRecDepth 100000 in
theorem k_X7_bestAct (l : Launch) (hl0 : l.stackTraces = false) (D : va_G) (cI cJ cZ cS : ClassId) (B0 : Nat) (sz : Nat) (a0 a_now a_past a_plan a_picker a_rest a_packed a_now_items a_now_books a_now_terms a_now_shelves a_now_lots a_now_orders a_plan_terms a_plan_low a_plan_high a_plan_bottom a_plan_cost a_plan_act : Nat) (c_acts : Int32) (c_nextSlot : Int32) (c_now_today : Int32) (c_now_products : Int32) (c_now_itemCount : Int32) (c_now_terms : Nat → Int32) (c_plan_terms : Nat → Int32) (c_plan_low : Nat → Int32) (c_plan_high : Nat → Int32) (c_plan_bottom : Nat → Int64) (c_plan_cost : Nat → Int64) (c_plan_act : Nat → Int32) (v1 : Int32) (v2 : Int32) (r9 : Except String Int32) (oc_plan_terms : Nat → Int32) (oc_plan_low : Nat → Int32) (oc_plan_high : Nat → Int32) (oc_plan_bottom : Nat → Int64) (oc_plan_cost : Nat → Int64) (oc_plan_act : Nat → Int32)  (hf : f_X7_bestAct v1 v2 c_now_terms c_plan_terms c_plan_low c_plan_high c_plan_bottom c_plan_cost c_plan_act = some (r9, oc_plan_terms, oc_plan_low, oc_plan_high, oc_plan_bottom, oc_plan_cost, oc_plan_act)) : vx_Met l yX7_bestAct (wz yX7_bestAct cX7_bestAct 3 (some .int)) ({ frames := 7, cells := 1, slots := 6, locals := 148 }) (va_Pc [.ref a0, .int v1, .int v2] (wp D cI cJ cZ cS B0 [oX7 a0 a_now a_past c_acts c_nextSlot a_plan a_picker a_rest a_packed, oX6 a_now c_now_today c_now_products c_now_itemCount a_now_items a_now_books a_now_terms a_now_shelves a_now_lots a_now_orders, rI cI a_now_terms 10 c_now_terms, oX4 a_plan a_plan_terms a_plan_low a_plan_high a_plan_bottom a_plan_cost a_plan_act, rI cI a_plan_terms 10 c_plan_terms, rI cI a_plan_low 6 c_plan_low, rI cI a_plan_high 6 c_plan_high, rJ cJ a_plan_bottom 6 c_plan_bottom, rJ cJ a_plan_cost 366 c_plan_cost, rI cI a_plan_act 366 c_plan_act] sz)) (va_Qi (fun (r2 : Int32) (_ : Unit) => r9 = .ok r2) (fun _ t => va_P D vwCl [oX7 a0 a_now a_past c_acts c_nextSlot a_plan a_picker a_rest a_packed, oX6 a_now c_now_today c_now_products c_now_itemCount a_now_items a_now_books a_now_terms a_now_shelves a_now_lots a_now_orders, rI cI a_now_terms 10 c_now_terms, oX4 a_plan a_plan_terms a_plan_low a_plan_high a_plan_bottom a_plan_cost a_plan_act, rI cI a_plan_terms 10 oc_plan_terms, rI cI a_plan_low 6 oc_plan_low, rI cI a_plan_high 6 oc_plan_high, rJ cJ a_plan_bottom 6 oc_plan_bottom, rJ cJ a_plan_cost 366 oc_plan_cost, rI cI a_plan_act 366 oc_plan_act] t.heap) (va_A [oX7 a0 a_now a_past c_acts c_nextSlot a_plan a_picker a_rest a_packed, oX6 a_now c_now_today c_now_products c_now_itemCount a_now_items a_now_books a_now_terms a_now_shelves a_now_lots a_now_orders, rI cI a_now_terms 10 c_now_terms, oX4 a_plan a_plan_terms a_plan_low a_plan_high a_plan_bottom a_plan_cost a_plan_act, rI cI a_plan_terms 10 c_plan_terms, rI cI a_plan_low 6 c_plan_low, rI cI a_plan_high 6 c_plan_high, rJ cJ a_plan_bottom 6 c_plan_bottom, rJ cJ a_plan_cost 366 c_plan_cost, rI cI a_plan_act 366 c_plan_act] sz)) (vx_X (fun (_ : Unit) => True) (fun E _ t => r9 = .error E ∧ va_P D vwCl [oX7 a0 a_now a_past c_acts c_nextSlot a_plan a_picker a_rest a_packed, oX6 a_now c_now_today c_now_products c_now_itemCount a_now_items a_now_books a_now_terms a_now_shelves a_now_lots a_now_orders, rI cI a_now_terms 10 c_now_terms, oX4 a_plan a_plan_terms a_plan_low a_plan_high a_plan_bottom a_plan_cost a_plan_act, rI cI a_plan_terms 10 oc_plan_terms, rI cI a_plan_low 6 oc_plan_low, rI cI a_plan_high 6 oc_plan_high, rJ cJ a_plan_bottom 6 oc_plan_bottom, rJ cJ a_plan_cost 366 oc_plan_cost, rI cI a_plan_act 366 oc_plan_act] t.heap) (va_A [oX7 a0 a_now a_past c_acts c_nextSlot a_plan a_picker a_rest a_packed, oX6 a_now c_now_today c_now_products c_now_itemCount a_now_items a_now_books a_now_terms a_now_shelves a_now_lots a_now_orders, rI cI a_now_terms 10 c_now_terms, oX4 a_plan a_plan_terms a_plan_low a_plan_high a_plan_bottom a_plan_cost a_plan_act, rI cI a_plan_terms 10 c_plan_terms, rI cI a_plan_low 6 c_plan_low, rI cI a_plan_high 6 c_plan_high, rJ cJ a_plan_bottom 6 c_plan_bottom, rJ cJ a_plan_cost 366 c_plan_cost, rI cI a_plan_act 366 c_plan_act] sz)) 1 6 (va_A [oX7 a0 a_now a_past c_acts c_nextSlot a_plan a_picker a_rest a_packed, oX6 a_now c_now_today c_now_products c_now_itemCount a_now_items a_now_books a_now_terms a_now_shelves a_now_lots a_now_orders, rI cI a_now_terms 10 c_now_terms, oX4 a_plan a_plan_terms a_plan_low a_plan_high a_plan_bottom a_plan_cost a_plan_act, rI cI a_plan_terms 10 c_plan_terms, rI cI a_plan_low 6 c_plan_low, rI cI a_plan_high 6 c_plan_high, rJ cJ a_plan_bottom 6 c_plan_bottom, rJ cJ a_plan_cost 366 c_plan_cost, rI cI a_plan_act 366 c_plan_act] sz) := by
  refine vx_ofW (cc := cX7_bestAct) (maxL := 3) (ret := (some .int)) (by decide +kernel) rfl ?_
  intro p e s m args below meth c s₁ B hml hno hv
  obtain ⟨rfl, hsz, hP, hK, hD0, hB0, hE⟩ := hv
  subst hsz
  have hx := B.exec
  have hb := B.bytes
  have hr := B.returns
  have hts := atoms_spec (ws := (wz yX7_bestAct cX7_bestAct 3 (some .int))) B.pre
  have hown : s.vm.findClass RX7 = some m.cls := findClass_of_methodNamed B.named
  have hlocks := B.notSynchronized
  have hD := hD0.self (sz := s.heap.size)
  have hAB : ∀ q : Nat, va_A [oX7 a0 a_now a_past c_acts c_nextSlot a_plan a_picker a_rest a_packed, oX6 a_now c_now_today c_now_products c_now_itemCount a_now_items a_now_books a_now_terms a_now_shelves a_now_lots a_now_orders, rI cI a_now_terms 10 c_now_terms, oX4 a_plan a_plan_terms a_plan_low a_plan_high a_plan_bottom a_plan_cost a_plan_act, rI cI a_plan_terms 10 c_plan_terms, rI cI a_plan_low 6 c_plan_low, rI cI a_plan_high 6 c_plan_high, rJ cJ a_plan_bottom 6 c_plan_bottom, rJ cJ a_plan_cost 366 c_plan_cost, rI cI a_plan_act 366 c_plan_act] s.heap.size q → B0 ≤ q := va_A_B hD0 hB0
  generalize hAe : va_A [oX7 a0 a_now a_past c_acts c_nextSlot a_plan a_picker a_rest a_packed, oX6 a_now c_now_today c_now_products c_now_itemCount a_now_items a_now_books a_now_terms a_now_shelves a_now_lots a_now_orders, rI cI a_now_terms 10 c_now_terms, oX4 a_plan a_plan_terms a_plan_low a_plan_high a_plan_bottom a_plan_cost a_plan_act, rI cI a_plan_terms 10 c_plan_terms, rI cI a_plan_low 6 c_plan_low, rI cI a_plan_high 6 c_plan_high, rJ cJ a_plan_bottom 6 c_plan_bottom, rJ cJ a_plan_cost 366 c_plan_cost, rI cI a_plan_act 366 c_plan_act] s.heap.size = A at hD hAB ⊢
  have hA : ∀ q : Nat, s.heap.size ≤ q → A q := fun q h => by rw [← hAe]; exact Or.inr h
  have hFa := hA
  have hS : va_S A s.heap s.heap [] := va_S.rf
  have hBn := fun (H : Heap) (locs : List Loc) (h : va_S A s.heap H locs) => Nat.le_trans hB0 h.1
  have hEn := fun (H : Heap) (locs : List Loc) (h : va_S A s.heap H locs) => gE_now hE h hAB
  have hl := lv_entry ([.ref a0, .int v1, .int v2]) (n := 3) (Nat.le_of_ble_eq_true rfl)
  rw [lg_entry_eq]
  generalize (lg_sl ([.ref a0, .int v1, .int v2]) ++ List.replicate (3 - (lg_sl ([.ref a0, .int v1, .int v2])).length) Slot.unset).toArray = ls at hl ⊢
  have hl : lv_has ls 3 [(0, .ref a0), (1, .int v1), (2, .int v2)] := hl
  obtain ⟨H, hHe⟩ : ∃ H : Heap, H = s.heap := ⟨_, rfl⟩
  have hP : va_P D vwCl [oX7 a0 a_now a_past c_acts c_nextSlot a_plan a_picker a_rest a_packed, oX6 a_now c_now_today c_now_products c_now_itemCount a_now_items a_now_books a_now_terms a_now_shelves a_now_lots a_now_orders, rI cI a_now_terms 10 c_now_terms, oX4 a_plan a_plan_terms a_plan_low a_plan_high a_plan_bottom a_plan_cost a_plan_act, rI cI a_plan_terms 10 c_plan_terms, rI cI a_plan_low 6 c_plan_low, rI cI a_plan_high 6 c_plan_high, rJ cJ a_plan_bottom 6 c_plan_bottom, rJ cJ a_plan_cost 366 c_plan_cost, rI cI a_plan_act 366 c_plan_act] H := by rw [hHe]; exact hP
  have hS : va_S A s.heap H [] := by rw [hHe]; exact hS
  refine W_heq hHe ?_
  unfold f_X7_bestAct at hf
  refine lv_iload_n hx hb dX7_bestAct_0 rfl (lv_at hl 1 rfl) ?_
  refine lv_iconst (v := 1) hx hb dX7_bestAct_1 (by decide) ?_
  refine lv_iconst (v := 5) hx hb dX7_bestAct_2 (by decide) ?_
  obtain ⟨r1, hc2, hf⟩ := ob1 hf
  refine rx_callv (r9 := r1) (vx_runS (As := [.int v1, .int 1, .int 5]) (rest := []) ⟨hx, hb, hml, hown, hts⟩ (k_X7_needRange l hl0 D cI cJ cZ cS B0 H v1 1 5 r1 hc2) (va_cwS 3 hts (gS tb_492 tb_493 tb_1 tb_494) rfl rfl rfl (by decide +kernel) ⟨Nat.le_of_ble_eq_true rfl, Nat.le_of_ble_eq_true rfl⟩) ⟨rp_blind, rp_pre (hP.sub [] rfl) hK (hBn _ _ hS) (hEn _ _ hS)⟩ rfl rfl hl.1 rfl (lv_room (Nat.le_of_ble_eq_true rfl)) dX7_bestAct_3 ⟨Nat.le_of_ble_eq_true rfl, Nat.le_of_ble_eq_true rfl⟩) hS hA (fun E3 ce q9 H1 locs1 hE9 hz9 hk9 hS hq9 hv9 hcl9 => ?_) (fun hr9 => ?_)
  · subst hE9
    have hf := mx_e hf
    cases hf
    exact vx_out (fun x hx => (hno x hx).elim) hlocks hq9 hv9 hcl9 (fun t ht hal => ⟨(), trivial, ⟨rfl, (by show va_P D vwCl _ t.heap; rw [ht]; exact va_Pk hP hk9)⟩, hS.F ht⟩) hS.2.2 (Nat.le_of_ble_eq_true rfl) (Nat.le_of_ble_eq_true rfl)
  · subst hr9
    have hf := mx_o hf
    refine lv_iload_n hx hb dX7_bestAct_6 rfl (lv_at hl 2 rfl) ?_
    refine lv_bipush (v := (-20)) hx hb dX7_bestAct_7 (by decide) ?_
    refine lv_aload_n hx hb dX7_bestAct_9 rfl (lv_at hl 0 rfl) ?_
    refine va_get (D := D) (ci := 6) (v := .ref a_now) (C := RX7) (T := TX7) (N := 8) hx hb hts (fun w h => mb (iX7 w h)) hown hK hP 0 rfl rfl 0 (by decide) (hts _ (mb tb_270)) (fun _ h9 => h9) rfl dX7_bestAct_10 ?_
    refine va_get (D := D) (ci := 5) (v := .ref a_now_terms) (C := RX6) (T := TX6) (N := 9) hx hb hts (fun w h => mb (iX6 w h)) hown hK hP 1 rfl rfl 5 (by decide) (hts _ (mb tb_167)) (fun _ h9 => h9) rfl dX7_bestAct_13 ?_
    refine lv_bipush (v := 9) hx hb dX7_bestAct_16 (by decide) ?_
    obtain ⟨h4, hf⟩ := ob_d hf
    refine va_iald hx hb hK hP 2 0 rfl rfl h4 dX7_bestAct_18 ?_
    obtain ⟨r5, hc6, hf⟩ := ob1 hf
    refine rx_callv (r9 := r5) (vx_runS (As := [.int v2, .int (-20), .int (c_now_terms (9 : Int32).toNatClampNeg)]) (rest := []) ⟨hx, hb, hml, hown, hts⟩ (k_X7_needRange l hl0 D cI cJ cZ cS B0 H v2 (-20) (c_now_terms (9 : Int32).toNatClampNeg) r5 hc6) (va_cwS 3 hts (gS tb_492 tb_493 tb_1 tb_494) rfl rfl rfl (by decide +kernel) ⟨Nat.le_of_ble_eq_true rfl, Nat.le_of_ble_eq_true rfl⟩) ⟨rp_blind, rp_pre (hP.sub [] rfl) hK (hBn _ _ hS) (hEn _ _ hS)⟩ rfl rfl hl.1 rfl (lv_room (Nat.le_of_ble_eq_true rfl)) dX7_bestAct_19 ⟨Nat.le_of_ble_eq_true rfl, Nat.le_of_ble_eq_true rfl⟩) hS hA (fun E7 ce q9 H1 locs1 hE9 hz9 hk9 hS hq9 hv9 hcl9 => ?_) (fun hr9 => ?_)
    · subst hE9
      have hf := mx_e hf
      cases hf
      exact vx_out (fun x hx => (hno x hx).elim) hlocks hq9 hv9 hcl9 (fun t ht hal => ⟨(), trivial, ⟨rfl, (by show va_P D vwCl _ t.heap; rw [ht]; exact va_Pk hP hk9)⟩, hS.F ht⟩) hS.2.2 (Nat.le_of_ble_eq_true rfl) (Nat.le_of_ble_eq_true rfl)
    · subst hr9
      have hf := mx_o hf
      refine lv_aload_n hx hb dX7_bestAct_22 rfl (lv_at hl 0 rfl) ?_
      refine va_get (D := D) (ci := 6) (v := .ref a_plan) (C := RX7) (T := TX7) (N := 8) hx hb hts (fun w h => mb (iX7 w h)) hown hK hP 0 rfl rfl 4 (by decide) (hts _ (mb tb_274)) (fun _ h9 => h9) rfl dX7_bestAct_23 ?_
      refine lv_aload_n hx hb dX7_bestAct_26 rfl (lv_at hl 0 rfl) ?_
      refine va_get (D := D) (ci := 6) (v := .ref a_now) (C := RX7) (T := TX7) (N := 8) hx hb hts (fun w h => mb (iX7 w h)) hown hK hP 0 rfl rfl 0 (by decide) (hts _ (mb tb_270)) (fun _ h9 => h9) rfl dX7_bestAct_27 ?_
      refine va_get (D := D) (ci := 5) (v := .ref a_now_terms) (C := RX6) (T := TX6) (N := 9) hx hb hts (fun w h => mb (iX6 w h)) hown hK hP 1 rfl rfl 5 (by decide) (hts _ (mb tb_167)) (fun _ h9 => h9) rfl dX7_bestAct_30 ?_
      obtain ⟨o10, o11, o12, o13, o14, o15, hc9, hf⟩ := ob6 hf
      refine rw_callv (va_runV (As := [.ref a_now_terms]) (rest := []) ⟨hx, hb, hml, hown, hts⟩ (k_X4_solve l hl0 D cI cJ cZ cS B0 H.size a_plan a_plan_terms a_plan_low a_plan_high a_plan_bottom a_plan_cost a_plan_act a_now_terms c_plan_terms c_plan_low c_plan_high c_plan_bottom c_plan_cost c_plan_act c_now_terms o10 o11 o12 o13 o14 o15 hc9) (cwV 1 hts (gV tb_459 tb_460 tb_461 tb_6 tb_462) rfl rfl rfl (by decide +kernel) ⟨Nat.le_of_ble_eq_true rfl, Nat.le_of_ble_eq_true rfl⟩) ⟨wp_blind, va_recv hK hP (ci := 3) (q0 := 3) rfl rfl, wp_pre (hP.sub [3, 4, 5, 6, 7, 8, 9, 2] rfl) hK (va_D.sub (hD.weaken (fun _ _ _ h9 => hAB _ h9)) [3, 4, 5, 6, 7, 8, 9, 2] rfl rfl) (hBn _ _ hS) (hEn _ _ hS)⟩ rfl rfl hl.1 rfl (lv_room (Nat.le_of_ble_eq_true rfl)) dX7_bestAct_33 ⟨Nat.le_of_ble_eq_true rfl, Nat.le_of_ble_eq_true rfl⟩) hP hD hS hA [oX7 a0 a_now a_past c_acts c_nextSlot a_plan a_picker a_rest a_packed, oX6 a_now c_now_today c_now_products c_now_itemCount a_now_items a_now_books a_now_terms a_now_shelves a_now_lots a_now_orders, rI cI a_now_terms 10 c_now_terms, oX4 a_plan a_plan_terms a_plan_low a_plan_high a_plan_bottom a_plan_cost a_plan_act, rI cI a_plan_terms 10 o10, rI cI a_plan_low 6 o11, rI cI a_plan_high 6 o12, rJ cJ a_plan_bottom 6 o13, rJ cJ a_plan_cost 366 o14, rI cI a_plan_act 366 o15] 10 [3, 4, 5, 6, 7, 8, 9, 2] [0, 1] rfl rfl rfl rfl (by decide +kernel) rfl (fun H locs hP hD hS => ?_)
      refine lv_aload_n hx hb dX7_bestAct_36 rfl (lv_at hl 0 rfl) ?_
      refine va_get (D := D) (ci := 6) (v := .ref a_plan) (C := RX7) (T := TX7) (N := 8) hx hb hts (fun w h => mb (iX7 w h)) hown hK hP 0 rfl rfl 4 (by decide) (hts _ (mb tb_274)) (fun _ h9 => h9) rfl dX7_bestAct_37 ?_
      refine va_get (D := D) (ci := 3) (v := .ref a_plan_act) (C := RX4) (T := TX4) (N := 6) hx hb hts (fun w h => mb (iX4 w h)) hown hK hP 3 rfl rfl 5 (by decide) (hts _ (mb tb_210)) (fun _ h9 => h9) rfl dX7_bestAct_40 ?_
      refine lv_iload_n hx hb dX7_bestAct_43 rfl (lv_at hl 1 rfl) ?_
      refine lv_iload_n hx hb dX7_bestAct_44 rfl (lv_at hl 2 rfl) ?_
      obtain ⟨r16, hc17, hf⟩ := ob1 hf
      refine ro_calli (r := r16) (va_runS (As := [.int v1, .int v2]) (rest := [.ref a_plan_act]) ⟨hx, hb, hml, hown, hts⟩ (k_X4_cell l hl0 D cI cJ cZ cS B0 H v1 v2 r16 hc17) (va_cwS 2 hts (gS tb_1037 tb_476 tb_6 tb_477) rfl rfl rfl (by decide +kernel) ⟨Nat.le_of_ble_eq_true rfl, Nat.le_of_ble_eq_true rfl⟩) ⟨rp_blind, rp_pre (hP.sub [] rfl) hK (hBn _ _ hS) (hEn _ _ hS)⟩ rfl rfl hl.1 rfl (lv_room (Nat.le_of_ble_eq_true rfl)) dX7_bestAct_45 ⟨Nat.le_of_ble_eq_true rfl, Nat.le_of_ble_eq_true rfl⟩) ?_
      obtain ⟨h18, hf⟩ := ob_d hf
      refine va_iald hx hb hK hP 9 0 rfl rfl h18 dX7_bestAct_48 ?_
      cases hf
      refine vx_ret ?_
      refine W.widen (k := 1) (n := 6) (Nat.le_of_ble_eq_true rfl) (Nat.le_of_ble_eq_true rfl) ?_
      exact W.iret hx hb hr (fun t ht hW => ⟨⟨_, (), rfl, rfl, (by show va_P D vwCl _ t.heap; rw [ht]; exact hP)⟩, hS.F ht⟩) hS.2.2 dX7_bestAct_49
def f_X7_commonDivisor_L9 (n4 : Int64) (n6 : Int64) (n8 : Int32) : Option ((Int64 × Int64 × Int32) ⊕ Int64) :=
  (if 1000 ≤ n8 then some (.inr n4)
  else (if (lg_cmp n6 0) = 0 then some (.inr n4)
  else gz n6 (some (.inl (n6, n4 - n4 / n6 * n6, n8 + 1)))))
def f_X7_commonDivisor (v0 : Int64) (v2 : Int64) : Option (Int64) :=
  (bnd1 (loop (fun z => f_X7_commonDivisor_L9 z.1 z.2.1 z.2.2) fu (v0, v2, 0)) fun m5 =>
  some m5)
set_option maxHeartbeats 4000000 in
set_option maxRecDepth 100000 in
theorem k_X7_commonDivisor (l : Launch) (hl0 : l.stackTraces = false) (D : va_G) (cI cJ cZ cS : ClassId) (B0 : Nat) (H0 : Heap) (v0 : Int64) (v2 : Int64) (r9 : Int64)  (hf : f_X7_commonDivisor v0 v2 = some r9) : Met l yX7_commonDivisor (wz yX7_commonDivisor cX7_commonDivisor 11 (some .long)) ({ frames := 0, cells := 0, slots := 0, locals := 0 }) (va_Pc [.long v0, .long v2] (rp D cI cJ cZ cS B0 [] H0)) (va_Ql (fun (r2 : Int64) (_ : Unit) => r2 = r9) (fun _ t => t.heap = H0) (fun q => H0.size ≤ q)) 0 0 (fun q => H0.size ≤ q) := by
  refine Met.ofW (cc := cX7_commonDivisor) (maxL := 11) (ret := (some .long)) (by decide) rfl ?_
  intro p e s m args below meth c s₁ B hml hv
  obtain ⟨rfl, hH, hP, hK, hB0, hE⟩ := hv
  subst hH
  have hx := B.exec
  have hb := B.bytes
  have hr := B.returns
  have hts := atoms_spec (ws := (wz yX7_commonDivisor cX7_commonDivisor 11 (some .long))) B.pre
  have hown : s.vm.findClass RX7 = some m.cls := findClass_of_methodNamed B.named
  have hlocks := B.notSynchronized
  have hAB : ∀ q : Nat, s.heap.size ≤ q → B0 ≤ q := fun q h => Nat.le_trans hB0 h
  have hA : ∀ q : Nat, s.heap.size ≤ q → s.heap.size ≤ q := fun _ h => h
  have hS : va_S (fun q => s.heap.size ≤ q) s.heap s.heap [] := va_S.rf
  have hBn := fun (H : Heap) (locs : List Loc) (h : va_S (fun q => s.heap.size ≤ q) s.heap H locs) => Nat.le_trans hB0 h.1
  have hEn := fun (H : Heap) (locs : List Loc) (h : va_S (fun q => s.heap.size ≤ q) s.heap H locs) => gE_now hE h hAB
  have hl := lv_entry ([.long v0, .long v2]) (n := 11) (Nat.le_of_ble_eq_true rfl)
  rw [lg_entry_eq]
  generalize (lg_sl ([.long v0, .long v2]) ++ List.replicate (11 - (lg_sl ([.long v0, .long v2])).length) Slot.unset).toArray = ls at hl ⊢
  have hl : lv_has ls 11 [(0, .long v0), (2, .long v2)] := hl
  obtain ⟨H, hHe⟩ : ∃ H : Heap, H = s.heap := ⟨_, rfl⟩
  have hP : va_P D vwCl [] H := by rw [hHe]; exact hP
  have hS : va_S (fun q => s.heap.size ≤ q) s.heap H [] := by rw [hHe]; exact hS
  refine W_heq hHe ?_
  unfold f_X7_commonDivisor at hf
  refine gen_go (fun WW hWW => ?_)
  have hL9 : ∀ (n : Nat) (n4 : Int64) (n6 : Int64) (n8 : Int32) (e4 : Int64), loop (fun z => f_X7_commonDivisor_L9 z.1 z.2.1 z.2.2) n (n4, n6, n8) = some e4 → (∀ (ls : Array Slot), lv_has ls 11 [(4, .long e4)] → WW (F0 m 45 ls [])) → ∀ (ls : Array Slot), lv_has ls 11 [(4, .long n4), (6, .long n6), (8, .int n8)] → WW (F0 m 9 ls []) := by
    intro n
    induction n with
    | zero =>
      intro n4 n6 n8 e4 hlp
      exact absurd hlp (by simp [loop])
    | succ n ih =>
      intro n4 n6 n8 e4 hlp K ls hl
      obtain ⟨x9, hf, hlp⟩ := loop_s hlp
      have hf : f_X7_commonDivisor_L9 n4 n6 n8 = some x9 := hf
      unfold f_X7_commonDivisor_L9 at hf
      refine (hWW _).mpr ?_
      refine lv_iload hx hb dX7_commonDivisor_9 (lv_at hl 2 rfl) ?_
      refine lv_sipush (v := 1000) hx hb dX7_commonDivisor_11 (by decide) ?_
      refine lv_icmp_ge (tgt := 45) hx hb dX7_commonDivisor_14 (by decide) (fun h1 => ?_) (fun h1 => ?_)
      · have hf := ipos h1 hf
        obtain rfl := Option.some.inj hf
        cases lpx_r hlp
        exact (hWW _).mp (K ls (lv_sub hl [0] rfl))
      · have hf := ineg h1 hf
        refine lv_lload hx hb dX7_commonDivisor_17 (lv_at hl 1 rfl) ?_
        refine lv_lconst (v := 0) hx hb dX7_commonDivisor_19 (by decide) ?_
        refine W.lcmp hx hb dX7_commonDivisor_20 ?_
        refine lv_if_eq (tgt := 45) hx hb dX7_commonDivisor_21 (by decide) (fun h2 => ?_) (fun h2 => ?_)
        · have hf := ipos h2 hf
          obtain rfl := Option.some.inj hf
          cases lpx_r hlp
          exact (hWW _).mp (K ls (lv_sub hl [0] rfl))
        · have hf := ineg h2 hf
          refine lv_lload hx hb dX7_commonDivisor_24 (lv_at hl 0 rfl) ?_
          refine lv_lload hx hb dX7_commonDivisor_26 (lv_at hl 1 rfl) ?_
          obtain ⟨h3, hf⟩ := ob_zl hf
          refine lv_lrem hx hb dX7_commonDivisor_28 h3 ?_
          refine lv_lstore (lv' := [(9, .long (n4 - n4 / n6 * n6)), (4, .long n4), (6, .long n6), (8, .int n8)]) hx hb dX7_commonDivisor_29 hl (by decide) rfl (fun ls hl => ?_)
          refine lv_lload hx hb dX7_commonDivisor_31 (lv_at hl 2 rfl) ?_
          refine lv_lstore (lv' := [(4, .long n6), (9, .long (n4 - n4 / n6 * n6)), (6, .long n6), (8, .int n8)]) hx hb dX7_commonDivisor_33 hl (by decide) rfl (fun ls hl => ?_)
          refine lv_lload hx hb dX7_commonDivisor_35 (lv_at hl 1 rfl) ?_
          refine lv_lstore (lv' := [(6, .long (n4 - n4 / n6 * n6)), (4, .long n6), (9, .long (n4 - n4 / n6 * n6)), (8, .int n8)]) hx hb dX7_commonDivisor_37 hl (by decide) rfl (fun ls hl => ?_)
          refine lv_iinc (v := (n8 + 1)) (lv' := [(8, .int (n8 + 1)), (6, .long (n4 - n4 / n6 * n6)), (4, .long n6), (9, .long (n4 - n4 / n6 * n6))]) hx hb dX7_commonDivisor_39 hl (k := 3) rfl rfl (by decide) rfl (fun ls hl => ?_)
          refine lv_goto (tgt := 9) hx hb dX7_commonDivisor_42 (by decide) ?_
          obtain rfl := Option.some.inj hf
          exact (hWW _).mp (ih  _ _ _ _ hlp K ls (lv_sub hl [2, 1, 0] rfl))
  refine (hWW _).mpr ?_
  refine lv_lload_n hx hb dX7_commonDivisor_0 rfl (lv_at hl 0 rfl) ?_
  refine lv_lstore (lv' := [(4, .long v0), (0, .long v0), (2, .long v2)]) hx hb dX7_commonDivisor_1 hl (by decide) rfl (fun ls hl => ?_)
  refine lv_lload_n hx hb dX7_commonDivisor_3 rfl (lv_at hl 2 rfl) ?_
  refine lv_lstore (lv' := [(6, .long v2), (4, .long v0), (0, .long v0), (2, .long v2)]) hx hb dX7_commonDivisor_4 hl (by decide) rfl (fun ls hl => ?_)
  refine lv_iconst (v := 0) hx hb dX7_commonDivisor_6 (by decide) ?_
  refine lv_istore (lv' := [(8, .int 0), (6, .long v2), (4, .long v0), (0, .long v0), (2, .long v2)]) hx hb dX7_commonDivisor_7 hl (by decide) rfl (fun ls hl => ?_)
  obtain ⟨m5, hc4, hf⟩ := ob1 hf
  refine (hWW _).mp (hL9 fu _ _ _ _ hc4 (fun ls hl => ?_) ls (lv_sub hl [2, 1, 0] rfl))
  · refine (hWW _).mpr ?_
    refine lv_lload hx hb dX7_commonDivisor_45 (lv_at hl 0 rfl) ?_
    cases hf
    exact W.lret hx hb hr (fun t ht hW => ⟨⟨_, (), rfl, rfl, (ht.trans hHe)⟩, hS.F ht⟩) hS.2.2 dX7_commonDivisor_47
def f_X7_planCost (v1 : Int32) (v2 : Int32) (v3 : Int32) (c_now_terms : Nat → Int32) (c_plan_terms : Nat → Int32) (c_plan_low : Nat → Int32) (c_plan_high : Nat → Int32) (c_plan_bottom : Nat → Int64) (c_plan_cost : Nat → Int64) (c_plan_act : Nat → Int32) : Option ((Except String Int64) × (Nat → Int32) × (Nat → Int32) × (Nat → Int32) × (Nat → Int64) × (Nat → Int64) × (Nat → Int32)) :=
  bnd1 (f_X7_needRange v1 1 5) (fun r1 => mx r1 (fun E3 => some (.error E3, c_plan_terms, c_plan_low, c_plan_high, c_plan_bottom, c_plan_cost, c_plan_act)) (fun _ =>
  (gd 9 10 (bnd1 (f_X7_needRange v2 (-20) (c_now_terms (9 : Int32).toNatClampNeg)) (fun r5 => mx r5 (fun E7 => some (.error E7, c_plan_terms, c_plan_low, c_plan_high, c_plan_bottom, c_plan_cost, c_plan_act)) (fun _ =>
  (bnd6 (f_X4_solve c_plan_terms c_plan_low c_plan_high c_plan_bottom c_plan_cost c_plan_act c_now_terms) (fun o10 o11 o12 o13 o14 o15 =>
  (bnd1 (f_X4_cell v1 v2) (fun r16 =>
  (gd r16 366 (gd v1 6 (bnd1 (f_X7_commonDivisor (o14 r16.toNatClampNeg) (o13 v1.toNatClampNeg)) (fun r20 =>
  ((if (lg_cmp r20 0) = 0 then some (.ok 0, o10, o11, o12, o13, o14, o15)
  else (if v3 = 0 then gz r20 (some (.ok ((o14 r16.toNatClampNeg) / r20), o10, o11, o12, o13, o14, o15))
  else gz r20 (some (.ok ((o13 v1.toNatClampNeg) / r20), o10, o11, o12, o13, o14, o15)))))))))))))))))))
set_option maxHeartbeats 4000000 in
set_option maxRecDepth 100000 in
theorem k_X7_planCost (l : Launch) (hl0 : l.stackTraces = false) (D : va_G) (cI cJ cZ cS : ClassId) (B0 : Nat) (sz : Nat) (a0 a_now a_past a_plan a_picker a_rest a_packed a_now_items a_now_books a_now_terms a_now_shelves a_now_lots a_now_orders a_plan_terms a_plan_low a_plan_high a_plan_bottom a_plan_cost a_plan_act : Nat) (c_acts : Int32) (c_nextSlot : Int32) (c_now_today : Int32) (c_now_products : Int32) (c_now_itemCount : Int32) (c_now_terms : Nat → Int32) (c_plan_terms : Nat → Int32) (c_plan_low : Nat → Int32) (c_plan_high : Nat → Int32) (c_plan_bottom : Nat → Int64) (c_plan_cost : Nat → Int64) (c_plan_act : Nat → Int32) (v1 : Int32) (v2 : Int32) (v3 : Int32) (r9 : Except String Int64) (oc_plan_terms : Nat → Int32) (oc_plan_low : Nat → Int32) (oc_plan_high : Nat → Int32) (oc_plan_bottom : Nat → Int64) (oc_plan_cost : Nat → Int64) (oc_plan_act : Nat → Int32)  (hf : f_X7_planCost v1 v2 v3 c_now_terms c_plan_terms c_plan_low c_plan_high c_plan_bottom c_plan_cost c_plan_act = some (r9, oc_plan_terms, oc_plan_low, oc_plan_high, oc_plan_bottom, oc_plan_cost, oc_plan_act)) : vx_Met l yX7_planCost (wz yX7_planCost cX7_planCost 10 (some .long)) ({ frames := 7, cells := 1, slots := 6, locals := 148 }) (va_Pc [.ref a0, .int v1, .int v2, .int v3] (wp D cI cJ cZ cS B0 [oX7 a0 a_now a_past c_acts c_nextSlot a_plan a_picker a_rest a_packed, oX6 a_now c_now_today c_now_products c_now_itemCount a_now_items a_now_books a_now_terms a_now_shelves a_now_lots a_now_orders, rI cI a_now_terms 10 c_now_terms, oX4 a_plan a_plan_terms a_plan_low a_plan_high a_plan_bottom a_plan_cost a_plan_act, rI cI a_plan_terms 10 c_plan_terms, rI cI a_plan_low 6 c_plan_low, rI cI a_plan_high 6 c_plan_high, rJ cJ a_plan_bottom 6 c_plan_bottom, rJ cJ a_plan_cost 366 c_plan_cost, rI cI a_plan_act 366 c_plan_act] sz)) (va_Ql (fun (r2 : Int64) (_ : Unit) => r9 = .ok r2) (fun _ t => va_P D vwCl [oX7 a0 a_now a_past c_acts c_nextSlot a_plan a_picker a_rest a_packed, oX6 a_now c_now_today c_now_products c_now_itemCount a_now_items a_now_books a_now_terms a_now_shelves a_now_lots a_now_orders, rI cI a_now_terms 10 c_now_terms, oX4 a_plan a_plan_terms a_plan_low a_plan_high a_plan_bottom a_plan_cost a_plan_act, rI cI a_plan_terms 10 oc_plan_terms, rI cI a_plan_low 6 oc_plan_low, rI cI a_plan_high 6 oc_plan_high, rJ cJ a_plan_bottom 6 oc_plan_bottom, rJ cJ a_plan_cost 366 oc_plan_cost, rI cI a_plan_act 366 oc_plan_act] t.heap) (va_A [oX7 a0 a_now a_past c_acts c_nextSlot a_plan a_picker a_rest a_packed, oX6 a_now c_now_today c_now_products c_now_itemCount a_now_items a_now_books a_now_terms a_now_shelves a_now_lots a_now_orders, rI cI a_now_terms 10 c_now_terms, oX4 a_plan a_plan_terms a_plan_low a_plan_high a_plan_bottom a_plan_cost a_plan_act, rI cI a_plan_terms 10 c_plan_terms, rI cI a_plan_low 6 c_plan_low, rI cI a_plan_high 6 c_plan_high, rJ cJ a_plan_bottom 6 c_plan_bottom, rJ cJ a_plan_cost 366 c_plan_cost, rI cI a_plan_act 366 c_plan_act] sz)) (vx_X (fun (_ : Unit) => True) (fun E _ t => r9 = .error E ∧ va_P D vwCl [oX7 a0 a_now a_past c_acts c_nextSlot a_plan a_picker a_rest a_packed, oX6 a_now c_now_today c_now_products c_now_itemCount a_now_items a_now_books a_now_terms a_now_shelves a_now_lots a_now_orders, rI cI a_now_terms 10 c_now_terms, oX4 a_plan a_plan_terms a_plan_low a_plan_high a_plan_bottom a_plan_cost a_plan_act, rI cI a_plan_terms 10 oc_plan_terms, rI cI a_plan_low 6 oc_plan_low, rI cI a_plan_high 6 oc_plan_high, rJ cJ a_plan_bottom 6 oc_plan_bottom, rJ cJ a_plan_cost 366 oc_plan_cost, rI cI a_plan_act 366 oc_plan_act] t.heap) (va_A [oX7 a0 a_now a_past c_acts c_nextSlot a_plan a_picker a_rest a_packed, oX6 a_now c_now_today c_now_products c_now_itemCount a_now_items a_now_books a_now_terms a_now_shelves a_now_lots a_now_orders, rI cI a_now_terms 10 c_now_terms, oX4 a_plan a_plan_terms a_plan_low a_plan_high a_plan_bottom a_plan_cost a_plan_act, rI cI a_plan_terms 10 c_plan_terms, rI cI a_plan_low 6 c_plan_low, rI cI a_plan_high 6 c_plan_high, rJ cJ a_plan_bottom 6 c_plan_bottom, rJ cJ a_plan_cost 366 c_plan_cost, rI cI a_plan_act 366 c_plan_act] sz)) 1 6 (va_A [oX7 a0 a_now a_past c_acts c_nextSlot a_plan a_picker a_rest a_packed, oX6 a_now c_now_today c_now_products c_now_itemCount a_now_items a_now_books a_now_terms a_now_shelves a_now_lots a_now_orders, rI cI a_now_terms 10 c_now_terms, oX4 a_plan a_plan_terms a_plan_low a_plan_high a_plan_bottom a_plan_cost a_plan_act, rI cI a_plan_terms 10 c_plan_terms, rI cI a_plan_low 6 c_plan_low, rI cI a_plan_high 6 c_plan_high, rJ cJ a_plan_bottom 6 c_plan_bottom, rJ cJ a_plan_cost 366 c_plan_cost, rI cI a_plan_act 366 c_plan_act] sz) := by
  refine vx_ofW (cc := cX7_planCost) (maxL := 10) (ret := (some .long)) (by decide +kernel) rfl ?_
  intro p e s m args below meth c s₁ B hml hno hv
  obtain ⟨rfl, hsz, hP, hK, hD0, hB0, hE⟩ := hv
  subst hsz
  have hx := B.exec
  have hb := B.bytes
  have hr := B.returns
  have hts := atoms_spec (ws := (wz yX7_planCost cX7_planCost 10 (some .long))) B.pre
  have hown : s.vm.findClass RX7 = some m.cls := findClass_of_methodNamed B.named
  have hlocks := B.notSynchronized
  have hD := hD0.self (sz := s.heap.size)
  have hAB : ∀ q : Nat, va_A [oX7 a0 a_now a_past c_acts c_nextSlot a_plan a_picker a_rest a_packed, oX6 a_now c_now_today c_now_products c_now_itemCount a_now_items a_now_books a_now_terms a_now_shelves a_now_lots a_now_orders, rI cI a_now_terms 10 c_now_terms, oX4 a_plan a_plan_terms a_plan_low a_plan_high a_plan_bottom a_plan_cost a_plan_act, rI cI a_plan_terms 10 c_plan_terms, rI cI a_plan_low 6 c_plan_low, rI cI a_plan_high 6 c_plan_high, rJ cJ a_plan_bottom 6 c_plan_bottom, rJ cJ a_plan_cost 366 c_plan_cost, rI cI a_plan_act 366 c_plan_act] s.heap.size q → B0 ≤ q := va_A_B hD0 hB0
  generalize hAe : va_A [oX7 a0 a_now a_past c_acts c_nextSlot a_plan a_picker a_rest a_packed, oX6 a_now c_now_today c_now_products c_now_itemCount a_now_items a_now_books a_now_terms a_now_shelves a_now_lots a_now_orders, rI cI a_now_terms 10 c_now_terms, oX4 a_plan a_plan_terms a_plan_low a_plan_high a_plan_bottom a_plan_cost a_plan_act, rI cI a_plan_terms 10 c_plan_terms, rI cI a_plan_low 6 c_plan_low, rI cI a_plan_high 6 c_plan_high, rJ cJ a_plan_bottom 6 c_plan_bottom, rJ cJ a_plan_cost 366 c_plan_cost, rI cI a_plan_act 366 c_plan_act] s.heap.size = A at hD hAB ⊢
  have hA : ∀ q : Nat, s.heap.size ≤ q → A q := fun q h => by rw [← hAe]; exact Or.inr h
  have hFa := hA
  have hS : va_S A s.heap s.heap [] := va_S.rf
  have hBn := fun (H : Heap) (locs : List Loc) (h : va_S A s.heap H locs) => Nat.le_trans hB0 h.1
  have hEn := fun (H : Heap) (locs : List Loc) (h : va_S A s.heap H locs) => gE_now hE h hAB
  have hl := lv_entry ([.ref a0, .int v1, .int v2, .int v3]) (n := 10) (Nat.le_of_ble_eq_true rfl)
  rw [lg_entry_eq]
  generalize (lg_sl ([.ref a0, .int v1, .int v2, .int v3]) ++ List.replicate (10 - (lg_sl ([.ref a0, .int v1, .int v2, .int v3])).length) Slot.unset).toArray = ls at hl ⊢
  have hl : lv_has ls 10 [(0, .ref a0), (1, .int v1), (2, .int v2), (3, .int v3)] := hl
  obtain ⟨H, hHe⟩ : ∃ H : Heap, H = s.heap := ⟨_, rfl⟩
  have hP : va_P D vwCl [oX7 a0 a_now a_past c_acts c_nextSlot a_plan a_picker a_rest a_packed, oX6 a_now c_now_today c_now_products c_now_itemCount a_now_items a_now_books a_now_terms a_now_shelves a_now_lots a_now_orders, rI cI a_now_terms 10 c_now_terms, oX4 a_plan a_plan_terms a_plan_low a_plan_high a_plan_bottom a_plan_cost a_plan_act, rI cI a_plan_terms 10 c_plan_terms, rI cI a_plan_low 6 c_plan_low, rI cI a_plan_high 6 c_plan_high, rJ cJ a_plan_bottom 6 c_plan_bottom, rJ cJ a_plan_cost 366 c_plan_cost, rI cI a_plan_act 366 c_plan_act] H := by rw [hHe]; exact hP
  have hS : va_S A s.heap H [] := by rw [hHe]; exact hS
  refine W_heq hHe ?_
  unfold f_X7_planCost at hf
  refine lv_iload_n hx hb dX7_planCost_0 rfl (lv_at hl 1 rfl) ?_
  refine lv_iconst (v := 1) hx hb dX7_planCost_1 (by decide) ?_
  refine lv_iconst (v := 5) hx hb dX7_planCost_2 (by decide) ?_
  obtain ⟨r1, hc2, hf⟩ := ob1 hf
  refine rx_callv (r9 := r1) (vx_runS (As := [.int v1, .int 1, .int 5]) (rest := []) ⟨hx, hb, hml, hown, hts⟩ (k_X7_needRange l hl0 D cI cJ cZ cS B0 H v1 1 5 r1 hc2) (va_cwS 3 hts (gS tb_492 tb_493 tb_1 tb_494) rfl rfl rfl (by decide +kernel) ⟨Nat.le_of_ble_eq_true rfl, Nat.le_of_ble_eq_true rfl⟩) ⟨rp_blind, rp_pre (hP.sub [] rfl) hK (hBn _ _ hS) (hEn _ _ hS)⟩ rfl rfl hl.1 rfl (lv_room (Nat.le_of_ble_eq_true rfl)) dX7_planCost_3 ⟨Nat.le_of_ble_eq_true rfl, Nat.le_of_ble_eq_true rfl⟩) hS hA (fun E3 ce q9 H1 locs1 hE9 hz9 hk9 hS hq9 hv9 hcl9 => ?_) (fun hr9 => ?_)
  · subst hE9
    have hf := mx_e hf
    cases hf
    exact vx_out (fun x hx => (hno x hx).elim) hlocks hq9 hv9 hcl9 (fun t ht hal => ⟨(), trivial, ⟨rfl, (by show va_P D vwCl _ t.heap; rw [ht]; exact va_Pk hP hk9)⟩, hS.F ht⟩) hS.2.2 (Nat.le_of_ble_eq_true rfl) (Nat.le_of_ble_eq_true rfl)
  · subst hr9
    have hf := mx_o hf
    refine lv_iload_n hx hb dX7_planCost_6 rfl (lv_at hl 2 rfl) ?_
    refine lv_bipush (v := (-20)) hx hb dX7_planCost_7 (by decide) ?_
    refine lv_aload_n hx hb dX7_planCost_9 rfl (lv_at hl 0 rfl) ?_
    refine va_get (D := D) (ci := 6) (v := .ref a_now) (C := RX7) (T := TX7) (N := 8) hx hb hts (fun w h => mb (iX7 w h)) hown hK hP 0 rfl rfl 0 (by decide) (hts _ (mb tb_270)) (fun _ h9 => h9) rfl dX7_planCost_10 ?_
    refine va_get (D := D) (ci := 5) (v := .ref a_now_terms) (C := RX6) (T := TX6) (N := 9) hx hb hts (fun w h => mb (iX6 w h)) hown hK hP 1 rfl rfl 5 (by decide) (hts _ (mb tb_167)) (fun _ h9 => h9) rfl dX7_planCost_13 ?_
    refine lv_bipush (v := 9) hx hb dX7_planCost_16 (by decide) ?_
    obtain ⟨h4, hf⟩ := ob_d hf
    refine va_iald hx hb hK hP 2 0 rfl rfl h4 dX7_planCost_18 ?_
    obtain ⟨r5, hc6, hf⟩ := ob1 hf
    refine rx_callv (r9 := r5) (vx_runS (As := [.int v2, .int (-20), .int (c_now_terms (9 : Int32).toNatClampNeg)]) (rest := []) ⟨hx, hb, hml, hown, hts⟩ (k_X7_needRange l hl0 D cI cJ cZ cS B0 H v2 (-20) (c_now_terms (9 : Int32).toNatClampNeg) r5 hc6) (va_cwS 3 hts (gS tb_492 tb_493 tb_1 tb_494) rfl rfl rfl (by decide +kernel) ⟨Nat.le_of_ble_eq_true rfl, Nat.le_of_ble_eq_true rfl⟩) ⟨rp_blind, rp_pre (hP.sub [] rfl) hK (hBn _ _ hS) (hEn _ _ hS)⟩ rfl rfl hl.1 rfl (lv_room (Nat.le_of_ble_eq_true rfl)) dX7_planCost_19 ⟨Nat.le_of_ble_eq_true rfl, Nat.le_of_ble_eq_true rfl⟩) hS hA (fun E7 ce q9 H1 locs1 hE9 hz9 hk9 hS hq9 hv9 hcl9 => ?_) (fun hr9 => ?_)
    · subst hE9
      have hf := mx_e hf
      cases hf
      exact vx_out (fun x hx => (hno x hx).elim) hlocks hq9 hv9 hcl9 (fun t ht hal => ⟨(), trivial, ⟨rfl, (by show va_P D vwCl _ t.heap; rw [ht]; exact va_Pk hP hk9)⟩, hS.F ht⟩) hS.2.2 (Nat.le_of_ble_eq_true rfl) (Nat.le_of_ble_eq_true rfl)
    · subst hr9
      have hf := mx_o hf
      refine lv_aload_n hx hb dX7_planCost_22 rfl (lv_at hl 0 rfl) ?_
      refine va_get (D := D) (ci := 6) (v := .ref a_plan) (C := RX7) (T := TX7) (N := 8) hx hb hts (fun w h => mb (iX7 w h)) hown hK hP 0 rfl rfl 4 (by decide) (hts _ (mb tb_274)) (fun _ h9 => h9) rfl dX7_planCost_23 ?_
      refine lv_aload_n hx hb dX7_planCost_26 rfl (lv_at hl 0 rfl) ?_
      refine va_get (D := D) (ci := 6) (v := .ref a_now) (C := RX7) (T := TX7) (N := 8) hx hb hts (fun w h => mb (iX7 w h)) hown hK hP 0 rfl rfl 0 (by decide) (hts _ (mb tb_270)) (fun _ h9 => h9) rfl dX7_planCost_27 ?_
      refine va_get (D := D) (ci := 5) (v := .ref a_now_terms) (C := RX6) (T := TX6) (N := 9) hx hb hts (fun w h => mb (iX6 w h)) hown hK hP 1 rfl rfl 5 (by decide) (hts _ (mb tb_167)) (fun _ h9 => h9) rfl dX7_planCost_30 ?_
      obtain ⟨o10, o11, o12, o13, o14, o15, hc9, hf⟩ := ob6 hf
      refine rw_callv (va_runV (As := [.ref a_now_terms]) (rest := []) ⟨hx, hb, hml, hown, hts⟩ (k_X4_solve l hl0 D cI cJ cZ cS B0 H.size a_plan a_plan_terms a_plan_low a_plan_high a_plan_bottom a_plan_cost a_plan_act a_now_terms c_plan_terms c_plan_low c_plan_high c_plan_bottom c_plan_cost c_plan_act c_now_terms o10 o11 o12 o13 o14 o15 hc9) (cwV 1 hts (gV tb_459 tb_460 tb_461 tb_6 tb_462) rfl rfl rfl (by decide +kernel) ⟨Nat.le_of_ble_eq_true rfl, Nat.le_of_ble_eq_true rfl⟩) ⟨wp_blind, va_recv hK hP (ci := 3) (q0 := 3) rfl rfl, wp_pre (hP.sub [3, 4, 5, 6, 7, 8, 9, 2] rfl) hK (va_D.sub (hD.weaken (fun _ _ _ h9 => hAB _ h9)) [3, 4, 5, 6, 7, 8, 9, 2] rfl rfl) (hBn _ _ hS) (hEn _ _ hS)⟩ rfl rfl hl.1 rfl (lv_room (Nat.le_of_ble_eq_true rfl)) dX7_planCost_33 ⟨Nat.le_of_ble_eq_true rfl, Nat.le_of_ble_eq_true rfl⟩) hP hD hS hA [oX7 a0 a_now a_past c_acts c_nextSlot a_plan a_picker a_rest a_packed, oX6 a_now c_now_today c_now_products c_now_itemCount a_now_items a_now_books a_now_terms a_now_shelves a_now_lots a_now_orders, rI cI a_now_terms 10 c_now_terms, oX4 a_plan a_plan_terms a_plan_low a_plan_high a_plan_bottom a_plan_cost a_plan_act, rI cI a_plan_terms 10 o10, rI cI a_plan_low 6 o11, rI cI a_plan_high 6 o12, rJ cJ a_plan_bottom 6 o13, rJ cJ a_plan_cost 366 o14, rI cI a_plan_act 366 o15] 10 [3, 4, 5, 6, 7, 8, 9, 2] [0, 1] rfl rfl rfl rfl (by decide +kernel) rfl (fun H locs hP hD hS => ?_)
      refine lv_aload_n hx hb dX7_planCost_36 rfl (lv_at hl 0 rfl) ?_
      refine va_get (D := D) (ci := 6) (v := .ref a_plan) (C := RX7) (T := TX7) (N := 8) hx hb hts (fun w h => mb (iX7 w h)) hown hK hP 0 rfl rfl 4 (by decide) (hts _ (mb tb_274)) (fun _ h9 => h9) rfl dX7_planCost_37 ?_
      refine va_get (D := D) (ci := 3) (v := .ref a_plan_cost) (C := RX4) (T := TX4) (N := 6) hx hb hts (fun w h => mb (iX4 w h)) hown hK hP 3 rfl rfl 4 (by decide) (hts _ (mb tb_208)) (fun _ h9 => h9) rfl dX7_planCost_40 ?_
      refine lv_iload_n hx hb dX7_planCost_43 rfl (lv_at hl 1 rfl) ?_
      refine lv_iload_n hx hb dX7_planCost_44 rfl (lv_at hl 2 rfl) ?_
      obtain ⟨r16, hc17, hf⟩ := ob1 hf
      refine ro_calli (r := r16) (va_runS (As := [.int v1, .int v2]) (rest := [.ref a_plan_cost]) ⟨hx, hb, hml, hown, hts⟩ (k_X4_cell l hl0 D cI cJ cZ cS B0 H v1 v2 r16 hc17) (va_cwS 2 hts (gS tb_1037 tb_476 tb_6 tb_477) rfl rfl rfl (by decide +kernel) ⟨Nat.le_of_ble_eq_true rfl, Nat.le_of_ble_eq_true rfl⟩) ⟨rp_blind, rp_pre (hP.sub [] rfl) hK (hBn _ _ hS) (hEn _ _ hS)⟩ rfl rfl hl.1 rfl (lv_room (Nat.le_of_ble_eq_true rfl)) dX7_planCost_45 ⟨Nat.le_of_ble_eq_true rfl, Nat.le_of_ble_eq_true rfl⟩) ?_
      obtain ⟨h18, hf⟩ := ob_d hf
      refine va_lald hx hb hK hP 8 1 rfl rfl h18 dX7_planCost_48 ?_
      refine lv_lstore (lv' := [(4, .long (o14 r16.toNatClampNeg)), (0, .ref a0), (1, .int v1), (2, .int v2), (3, .int v3)]) hx hb dX7_planCost_49 hl (by decide) rfl (fun ls hl => ?_)
      refine lv_aload_n hx hb dX7_planCost_51 rfl (lv_at hl 1 rfl) ?_
      refine va_get (D := D) (ci := 6) (v := .ref a_plan) (C := RX7) (T := TX7) (N := 8) hx hb hts (fun w h => mb (iX7 w h)) hown hK hP 0 rfl rfl 4 (by decide) (hts _ (mb tb_274)) (fun _ h9 => h9) rfl dX7_planCost_52 ?_
      refine va_get (D := D) (ci := 3) (v := .ref a_plan_bottom) (C := RX4) (T := TX4) (N := 6) hx hb hts (fun w h => mb (iX4 w h)) hown hK hP 3 rfl rfl 3 (by decide) (hts _ (mb tb_206)) (fun _ h9 => h9) rfl dX7_planCost_55 ?_
      refine lv_iload_n hx hb dX7_planCost_58 rfl (lv_at hl 2 rfl) ?_
      obtain ⟨h19, hf⟩ := ob_d hf
      refine va_lald hx hb hK hP 7 1 rfl rfl h19 dX7_planCost_59 ?_
      refine lv_lstore (lv' := [(6, .long (o13 v1.toNatClampNeg)), (4, .long (o14 r16.toNatClampNeg)), (0, .ref a0), (1, .int v1), (2, .int v2), (3, .int v3)]) hx hb dX7_planCost_60 hl (by decide) rfl (fun ls hl => ?_)
      refine lv_lload hx hb dX7_planCost_62 (lv_at hl 1 rfl) ?_
      refine lv_lload hx hb dX7_planCost_64 (lv_at hl 0 rfl) ?_
      obtain ⟨r20, hc21, hf⟩ := ob1 hf
      refine ro_calll (r := r20) (va_runS (As := [.long (o14 r16.toNatClampNeg), .long (o13 v1.toNatClampNeg)]) (rest := []) ⟨hx, hb, hml, hown, hts⟩ (k_X7_commonDivisor l hl0 D cI cJ cZ cS B0 H (o14 r16.toNatClampNeg) (o13 v1.toNatClampNeg) r20 hc21) (va_cwS 2 hts (gS tb_1045 tb_1046 tb_1 tb_1047) rfl rfl rfl (by decide +kernel) ⟨Nat.le_of_ble_eq_true rfl, Nat.le_of_ble_eq_true rfl⟩) ⟨rp_blind, rp_pre (hP.sub [] rfl) hK (hBn _ _ hS) (hEn _ _ hS)⟩ rfl rfl hl.1 rfl (lv_room (Nat.le_of_ble_eq_true rfl)) dX7_planCost_66 ⟨Nat.le_of_ble_eq_true rfl, Nat.le_of_ble_eq_true rfl⟩) ?_
      refine lv_lstore (lv' := [(8, .long r20), (6, .long (o13 v1.toNatClampNeg)), (4, .long (o14 r16.toNatClampNeg)), (0, .ref a0), (1, .int v1), (2, .int v2), (3, .int v3)]) hx hb dX7_planCost_69 hl (by decide) rfl (fun ls hl => ?_)
      refine lv_lload hx hb dX7_planCost_71 (lv_at hl 0 rfl) ?_
      refine lv_lconst (v := 0) hx hb dX7_planCost_73 (by decide) ?_
      refine W.lcmp hx hb dX7_planCost_74 ?_
      refine lv_if_ne (tgt := 80) hx hb dX7_planCost_75 (by decide) (fun h22 => ?_) (fun h22 => ?_)
      · have hf := ineg h22 hf
        refine lv_iload_n hx hb dX7_planCost_80 rfl (lv_at hl 6 rfl) ?_
        refine lv_if_eq (tgt := 92) hx hb dX7_planCost_81 (by decide) (fun h23 => ?_) (fun h23 => ?_)
        · have hf := ipos h23 hf
          refine lv_lload hx hb dX7_planCost_92 (lv_at hl 2 rfl) ?_
          refine lv_lload hx hb dX7_planCost_94 (lv_at hl 0 rfl) ?_
          obtain ⟨h24, hf⟩ := ob_zl hf
          refine lv_ldiv hx hb dX7_planCost_96 h24 ?_
          cases hf
          refine vx_ret ?_
          refine W.widen (k := 1) (n := 6) (Nat.le_of_ble_eq_true rfl) (Nat.le_of_ble_eq_true rfl) ?_
          exact W.lret hx hb hr (fun t ht hW => ⟨⟨_, (), rfl, rfl, (by show va_P D vwCl _ t.heap; rw [ht]; exact hP)⟩, hS.F ht⟩) hS.2.2 dX7_planCost_97
        · have hf := ineg h23 hf
          refine lv_lload hx hb dX7_planCost_84 (lv_at hl 1 rfl) ?_
          refine lv_lload hx hb dX7_planCost_86 (lv_at hl 0 rfl) ?_
          obtain ⟨h25, hf⟩ := ob_zl hf
          refine lv_ldiv hx hb dX7_planCost_88 h25 ?_
          refine lv_goto (tgt := 97) hx hb dX7_planCost_89 (by decide) ?_
          cases hf
          refine vx_ret ?_
          refine W.widen (k := 1) (n := 6) (Nat.le_of_ble_eq_true rfl) (Nat.le_of_ble_eq_true rfl) ?_
          exact W.lret hx hb hr (fun t ht hW => ⟨⟨_, (), rfl, rfl, (by show va_P D vwCl _ t.heap; rw [ht]; exact hP)⟩, hS.F ht⟩) hS.2.2 dX7_planCost_97
      · have hf := ipos h22 hf
        refine lv_lconst (v := 0) hx hb dX7_planCost_78 (by decide) ?_
        cases hf
        refine vx_ret ?_
        refine W.widen (k := 1) (n := 6) (Nat.le_of_ble_eq_true rfl) (Nat.le_of_ble_eq_true rfl) ?_
        exact W.lret hx hb hr (fun t ht hW => ⟨⟨_, (), rfl, rfl, (by show va_P D vwCl _ t.heap; rw [ht]; exact hP)⟩, hS.F ht⟩) hS.2.2 dX7_planCost_79
def f_X7_book (v1 : Int32) (c_now_books : Nat → Int32) (c_now_shelves_places : Int32) (c_now_shelves_pieces : Nat → Int32) : Option ((Except String Int32)) :=
  bnd1 (f_X7_needRange v1 0 6) (fun r1 => mx r1 (fun E3 => some (.error E3)) (fun _ =>
  ((if v1 = 6 then bnd1 (f_X5_piecesOnHand c_now_shelves_places c_now_shelves_pieces) (fun r6 =>
  (some (.ok r6)))
  else gd v1 6 (some (.ok (c_now_books v1.toNatClampNeg)))))))
set_option maxHeartbeats 4000000 in
set_option maxRecDepth 100000 in
theorem k_X7_book (l : Launch) (hl0 : l.stackTraces = false) (D : va_G) (cI cJ cZ cS : ClassId) (B0 : Nat) (H0 : Heap) (a0 a_now a_past a_plan a_picker a_rest a_packed a_now_items a_now_books a_now_terms a_now_shelves a_now_lots a_now_orders a_now_shelves_lot a_now_shelves_pieces a_now_shelves_mark a_now_shelves_byDistance : Nat) (c_acts : Int32) (c_nextSlot : Int32) (c_now_today : Int32) (c_now_products : Int32) (c_now_itemCount : Int32) (c_now_books : Nat → Int32) (c_now_shelves_lanes : Int32) (c_now_shelves_positions : Int32) (c_now_shelves_room : Int32) (c_now_shelves_gap : Int32) (c_now_shelves_places : Int32) (c_now_shelves_picked : Int64) (c_now_shelves_pieces : Nat → Int32) (v1 : Int32) (r9 : Except String Int32)  (hf : f_X7_book v1 c_now_books c_now_shelves_places c_now_shelves_pieces = some r9) : vx_Met l yX7_book (wz yX7_book cX7_book 2 (some .int)) ({ frames := 7, cells := 1, slots := 6, locals := 112 }) (va_Pc [.ref a0, .int v1] (rp D cI cJ cZ cS B0 [oX7 a0 a_now a_past c_acts c_nextSlot a_plan a_picker a_rest a_packed, oX6 a_now c_now_today c_now_products c_now_itemCount a_now_items a_now_books a_now_terms a_now_shelves a_now_lots a_now_orders, rI cI a_now_books 6 c_now_books, oX5 a_now_shelves c_now_shelves_lanes c_now_shelves_positions c_now_shelves_room c_now_shelves_gap c_now_shelves_places c_now_shelves_picked a_now_shelves_lot a_now_shelves_pieces a_now_shelves_mark a_now_shelves_byDistance, rI cI a_now_shelves_pieces 48 c_now_shelves_pieces] H0)) (va_Qi (fun (r2 : Int32) (_ : Unit) => r9 = .ok r2) (fun _ t => t.heap = H0) (fun q => H0.size ≤ q)) (vx_X (fun (_ : Unit) => True) (fun E _ _ => r9 = .error E) (fun q => H0.size ≤ q)) 1 6 (fun q => H0.size ≤ q) := by
  refine vx_ofW (cc := cX7_book) (maxL := 2) (ret := (some .int)) (by decide +kernel) rfl ?_
  intro p e s m args below meth c s₁ B hml hno hv
  obtain ⟨rfl, hH, hP, hK, hB0, hE⟩ := hv
  subst hH
  have hx := B.exec
  have hb := B.bytes
  have hr := B.returns
  have hts := atoms_spec (ws := (wz yX7_book cX7_book 2 (some .int))) B.pre
  have hown : s.vm.findClass RX7 = some m.cls := findClass_of_methodNamed B.named
  have hlocks := B.notSynchronized
  have hAB : ∀ q : Nat, s.heap.size ≤ q → B0 ≤ q := fun q h => Nat.le_trans hB0 h
  have hA : ∀ q : Nat, s.heap.size ≤ q → s.heap.size ≤ q := fun _ h => h
  have hS : va_S (fun q => s.heap.size ≤ q) s.heap s.heap [] := va_S.rf
  have hBn := fun (H : Heap) (locs : List Loc) (h : va_S (fun q => s.heap.size ≤ q) s.heap H locs) => Nat.le_trans hB0 h.1
  have hEn := fun (H : Heap) (locs : List Loc) (h : va_S (fun q => s.heap.size ≤ q) s.heap H locs) => gE_now hE h hAB
  have hl := lv_entry ([.ref a0, .int v1]) (n := 2) (Nat.le_of_ble_eq_true rfl)
  rw [lg_entry_eq]
  generalize (lg_sl ([.ref a0, .int v1]) ++ List.replicate (2 - (lg_sl ([.ref a0, .int v1])).length) Slot.unset).toArray = ls at hl ⊢
  have hl : lv_has ls 2 [(0, .ref a0), (1, .int v1)] := hl
  obtain ⟨H, hHe⟩ : ∃ H : Heap, H = s.heap := ⟨_, rfl⟩
  have hP : va_P D vwCl [oX7 a0 a_now a_past c_acts c_nextSlot a_plan a_picker a_rest a_packed, oX6 a_now c_now_today c_now_products c_now_itemCount a_now_items a_now_books a_now_terms a_now_shelves a_now_lots a_now_orders, rI cI a_now_books 6 c_now_books, oX5 a_now_shelves c_now_shelves_lanes c_now_shelves_positions c_now_shelves_room c_now_shelves_gap c_now_shelves_places c_now_shelves_picked a_now_shelves_lot a_now_shelves_pieces a_now_shelves_mark a_now_shelves_byDistance, rI cI a_now_shelves_pieces 48 c_now_shelves_pieces] H := by rw [hHe]; exact hP
  have hS : va_S (fun q => s.heap.size ≤ q) s.heap H [] := by rw [hHe]; exact hS
  refine W_heq hHe ?_
  unfold f_X7_book at hf
  refine lv_iload_n hx hb dX7_book_0 rfl (lv_at hl 1 rfl) ?_
  refine lv_iconst (v := 0) hx hb dX7_book_1 (by decide) ?_
  refine lv_bipush (v := 6) hx hb dX7_book_2 (by decide) ?_
  obtain ⟨r1, hc2, hf⟩ := ob1 hf
  refine rx_callv (r9 := r1) (vx_runS (As := [.int v1, .int 0, .int 6]) (rest := []) ⟨hx, hb, hml, hown, hts⟩ (k_X7_needRange l hl0 D cI cJ cZ cS B0 H v1 0 6 r1 hc2) (va_cwS 3 hts (gS tb_492 tb_493 tb_1 tb_494) rfl rfl rfl (by decide +kernel) ⟨Nat.le_of_ble_eq_true rfl, Nat.le_of_ble_eq_true rfl⟩) ⟨rp_blind, rp_pre (hP.sub [] rfl) hK (hBn _ _ hS) (hEn _ _ hS)⟩ rfl rfl hl.1 rfl (lv_room (Nat.le_of_ble_eq_true rfl)) dX7_book_4 ⟨Nat.le_of_ble_eq_true rfl, Nat.le_of_ble_eq_true rfl⟩) hS hA (fun E3 ce q9 H1 locs1 hE9 hz9 hk9 hS hq9 hv9 hcl9 => ?_) (fun hr9 => ?_)
  · subst hE9
    have hf := mx_e hf
    cases hf
    exact vx_out (fun x hx => (hno x hx).elim) hlocks hq9 hv9 hcl9 (fun t ht hal => ⟨(), trivial, rfl, hS.F ht⟩) hS.2.2 (Nat.le_of_ble_eq_true rfl) (Nat.le_of_ble_eq_true rfl)
  · subst hr9
    have hf := mx_o hf
    refine lv_iload_n hx hb dX7_book_7 rfl (lv_at hl 1 rfl) ?_
    refine lv_bipush (v := 6) hx hb dX7_book_8 (by decide) ?_
    refine lv_icmp_ne (tgt := 26) hx hb dX7_book_10 (by decide) (fun h4 => ?_) (fun h4 => ?_)
    · have hf := ineg h4 hf
      refine lv_aload_n hx hb dX7_book_26 rfl (lv_at hl 0 rfl) ?_
      refine va_get (D := D) (ci := 6) (v := .ref a_now) (C := RX7) (T := TX7) (N := 8) hx hb hts (fun w h => mb (iX7 w h)) hown hK hP 0 rfl rfl 0 (by decide) (hts _ (mb tb_270)) (fun _ h9 => h9) rfl dX7_book_27 ?_
      refine va_get (D := D) (ci := 5) (v := .ref a_now_books) (C := RX6) (T := TX6) (N := 9) hx hb hts (fun w h => mb (iX6 w h)) hown hK hP 1 rfl rfl 4 (by decide) (hts _ (mb tb_165)) (fun _ h9 => h9) rfl dX7_book_30 ?_
      refine lv_iload_n hx hb dX7_book_33 rfl (lv_at hl 1 rfl) ?_
      obtain ⟨h5, hf⟩ := ob_d hf
      refine va_iald hx hb hK hP 2 0 rfl rfl h5 dX7_book_34 ?_
      cases hf
      refine vx_ret ?_
      refine W.widen (k := 1) (n := 6) (Nat.le_of_ble_eq_true rfl) (Nat.le_of_ble_eq_true rfl) ?_
      exact W.iret hx hb hr (fun t ht hW => ⟨⟨_, (), rfl, rfl, (ht.trans hHe)⟩, hS.F ht⟩) hS.2.2 dX7_book_35
    · have hf := ipos h4 hf
      refine lv_aload_n hx hb dX7_book_13 rfl (lv_at hl 0 rfl) ?_
      refine va_get (D := D) (ci := 6) (v := .ref a_now) (C := RX7) (T := TX7) (N := 8) hx hb hts (fun w h => mb (iX7 w h)) hown hK hP 0 rfl rfl 0 (by decide) (hts _ (mb tb_270)) (fun _ h9 => h9) rfl dX7_book_14 ?_
      refine va_get (D := D) (ci := 5) (v := .ref a_now_shelves) (C := RX6) (T := TX6) (N := 9) hx hb hts (fun w h => mb (iX6 w h)) hown hK hP 1 rfl rfl 6 (by decide) (hts _ (mb tb_169)) (fun _ h9 => h9) rfl dX7_book_17 ?_
      obtain ⟨r6, hc7, hf⟩ := ob1 hf
      refine ro_calli (r := r6) (va_runV (As := []) (rest := []) ⟨hx, hb, hml, hown, hts⟩ (k_X5_piecesOnHand l hl0 D cI cJ cZ cS B0 H a_now_shelves a_now_shelves_lot a_now_shelves_pieces a_now_shelves_mark a_now_shelves_byDistance c_now_shelves_lanes c_now_shelves_positions c_now_shelves_room c_now_shelves_gap c_now_shelves_places c_now_shelves_picked c_now_shelves_pieces r6 hc7) (cwV 0 hts (gV tb_455 tb_456 tb_457 tb_3 tb_458) rfl rfl rfl (by decide +kernel) ⟨Nat.le_of_ble_eq_true rfl, Nat.le_of_ble_eq_true rfl⟩) ⟨rp_blind, va_recv hK hP (ci := 4) (q0 := 3) rfl rfl, rp_pre (hP.sub [3, 4] rfl) hK (hBn _ _ hS) (hEn _ _ hS)⟩ rfl rfl hl.1 rfl (lv_room (Nat.le_of_ble_eq_true rfl)) dX7_book_20 ⟨Nat.le_of_ble_eq_true rfl, Nat.le_of_ble_eq_true rfl⟩) ?_
      refine lv_goto (tgt := 35) hx hb dX7_book_23 (by decide) ?_
      cases hf
      refine vx_ret ?_
      refine W.widen (k := 1) (n := 6) (Nat.le_of_ble_eq_true rfl) (Nat.le_of_ble_eq_true rfl) ?_
      exact W.iret hx hb hr (fun t ht hW => ⟨⟨_, (), rfl, rfl, (ht.trans hHe)⟩, hS.F ht⟩) hS.2.2 dX7_book_35
def f_X7_actCount (c_acts : Int32) : Option (Int32) :=
  some c_acts
set_option maxHeartbeats 4000000 in
set_option maxRecDepth 100000 in
theorem k_X7_actCount (l : Launch) (hl0 : l.stackTraces = false) (D : va_G) (cI cJ cZ cS : ClassId) (B0 : Nat) (H0 : Heap) (a0 a_now a_past a_plan a_picker a_rest a_packed : Nat) (c_acts : Int32) (c_nextSlot : Int32) (r9 : Int32)  (hf : f_X7_actCount c_acts = some r9) : Met l yX7_actCount (wz yX7_actCount cX7_actCount 1 (some .int)) ({ frames := 0, cells := 0, slots := 0, locals := 0 }) (va_Pc [.ref a0] (rp D cI cJ cZ cS B0 [oX7 a0 a_now a_past c_acts c_nextSlot a_plan a_picker a_rest a_packed] H0)) (va_Qi (fun (r2 : Int32) (_ : Unit) => r2 = r9) (fun _ t => t.heap = H0) (fun q => H0.size ≤ q)) 0 0 (fun q => H0.size ≤ q) := by
  refine Met.ofW (cc := cX7_actCount) (maxL := 1) (ret := (some .int)) (by decide) rfl ?_
  intro p e s m args below meth c s₁ B hml hv
  obtain ⟨rfl, hH, hP, hK, hB0, hE⟩ := hv
  subst hH
  have hx := B.exec
  have hb := B.bytes
  have hr := B.returns
  have hts := atoms_spec (ws := (wz yX7_actCount cX7_actCount 1 (some .int))) B.pre
  have hown : s.vm.findClass RX7 = some m.cls := findClass_of_methodNamed B.named
  have hlocks := B.notSynchronized
  have hAB : ∀ q : Nat, s.heap.size ≤ q → B0 ≤ q := fun q h => Nat.le_trans hB0 h
  have hA : ∀ q : Nat, s.heap.size ≤ q → s.heap.size ≤ q := fun _ h => h
  have hS : va_S (fun q => s.heap.size ≤ q) s.heap s.heap [] := va_S.rf
  have hBn := fun (H : Heap) (locs : List Loc) (h : va_S (fun q => s.heap.size ≤ q) s.heap H locs) => Nat.le_trans hB0 h.1
  have hEn := fun (H : Heap) (locs : List Loc) (h : va_S (fun q => s.heap.size ≤ q) s.heap H locs) => gE_now hE h hAB
  have hl := lv_entry ([.ref a0]) (n := 1) (Nat.le_of_ble_eq_true rfl)
  rw [lg_entry_eq]
  generalize (lg_sl ([.ref a0]) ++ List.replicate (1 - (lg_sl ([.ref a0])).length) Slot.unset).toArray = ls at hl ⊢
  have hl : lv_has ls 1 [(0, .ref a0)] := hl
  obtain ⟨H, hHe⟩ : ∃ H : Heap, H = s.heap := ⟨_, rfl⟩
  have hP : va_P D vwCl [oX7 a0 a_now a_past c_acts c_nextSlot a_plan a_picker a_rest a_packed] H := by rw [hHe]; exact hP
  have hS : va_S (fun q => s.heap.size ≤ q) s.heap H [] := by rw [hHe]; exact hS
  refine W_heq hHe ?_
  unfold f_X7_actCount at hf
  refine lv_aload_n hx hb dX7_actCount_0 rfl (lv_at hl 0 rfl) ?_
  refine va_get (D := D) (ci := 6) (v := .int c_acts) (C := RX7) (T := TX7) (N := 8) hx hb hts (fun w h => mb (iX7 w h)) hown hK hP 0 rfl rfl 2 (by decide) (hts _ (mb tb_272)) (fun _ h9 => h9) rfl dX7_actCount_1 ?_
  cases hf
  exact W.iret hx hb hr (fun t ht hW => ⟨⟨_, (), rfl, rfl, (ht.trans hHe)⟩, hS.F ht⟩) hS.2.2 dX7_actCount_4
def f_X7_checksum_L15 (c_now_today : Int32) (c_now_shelves_places : Int32) (c_now_shelves_lot : Nat → Int32) (c_now_shelves_pieces : Nat → Int32) (c_now_orders_count : Int32) (c_now_orders_open : Nat → Int32) (c_now_orders_had : Nat → Int32) (n1 : Int64) (n3 : Int32) : Option ((Int64 × Int32) ⊕ Int64) :=
  (if c_now_shelves_places ≤ n3 then some (.inr n1)
  else gd n3 48 (gd n3 48 (some (.inl ((31 * ((31 * n1) + ((c_now_shelves_lot n3.toNatClampNeg).toInt64))) + ((c_now_shelves_pieces n3.toNatClampNeg).toInt64), n3 + 1)))))
def f_X7_checksum_L77 (c_now_today : Int32) (c_now_shelves_places : Int32) (c_now_shelves_lot : Nat → Int32) (c_now_shelves_pieces : Nat → Int32) (c_now_orders_count : Int32) (c_now_orders_open : Nat → Int32) (c_now_orders_had : Nat → Int32) (n1 : Int64) (n3 : Int32) : Option ((Int64 × Int32) ⊕ Int64) :=
  (if c_now_orders_count ≤ n3 then some (.inr n1)
  else gd n3 40 (bnd1 (f_X2_piecesAt n3 c_now_orders_count c_now_orders_had) (fun r8 =>
  (some (.inl ((31 * ((31 * n1) + ((c_now_orders_open n3.toNatClampNeg).toInt64))) + r8.toInt64, n3 + 1))))))
def f_X7_checksum (c_now_today : Int32) (c_now_shelves_places : Int32) (c_now_shelves_lot : Nat → Int32) (c_now_shelves_pieces : Nat → Int32) (c_now_orders_count : Int32) (c_now_orders_open : Nat → Int32) (c_now_orders_had : Nat → Int32) : Option (Int64) :=
  (bnd1 (loop (fun z => f_X7_checksum_L15 c_now_today c_now_shelves_places c_now_shelves_lot c_now_shelves_pieces c_now_orders_count c_now_orders_open c_now_orders_had z.1 z.2) fu (527 + c_now_today.toInt64, 0)) fun m5 =>
  (bnd1 (loop (fun z => f_X7_checksum_L77 c_now_today c_now_shelves_places c_now_shelves_lot c_now_shelves_pieces c_now_orders_count c_now_orders_open c_now_orders_had z.1 z.2) fu (m5, 0)) fun m11 =>
  some m11))
set_option maxHeartbeats 4000000 in
set_option maxRecDepth 100000 in
theorem k_X7_checksum (l : Launch) (hl0 : l.stackTraces = false) (D : va_G) (cI cJ cZ cS : ClassId) (B0 : Nat) (H0 : Heap) (a0 a_now a_past a_plan a_picker a_rest a_packed a_now_items a_now_books a_now_terms a_now_shelves a_now_lots a_now_orders a_now_shelves_lot a_now_shelves_pieces a_now_shelves_mark a_now_shelves_byDistance a_now_orders_customer a_now_orders_product a_now_orders_open a_now_orders_due a_now_orders_life a_now_orders_byDue a_now_orders_had a_now_orders_stamps : Nat) (c_acts : Int32) (c_nextSlot : Int32) (c_now_today : Int32) (c_now_products : Int32) (c_now_itemCount : Int32) (c_now_shelves_lanes : Int32) (c_now_shelves_positions : Int32) (c_now_shelves_room : Int32) (c_now_shelves_gap : Int32) (c_now_shelves_places : Int32) (c_now_shelves_picked : Int64) (c_now_shelves_lot : Nat → Int32) (c_now_shelves_pieces : Nat → Int32) (c_now_orders_count : Int32) (c_now_orders_gifts : Int32) (c_now_orders_open : Nat → Int32) (c_now_orders_had : Nat → Int32) (r9 : Int64)  (hf : f_X7_checksum c_now_today c_now_shelves_places c_now_shelves_lot c_now_shelves_pieces c_now_orders_count c_now_orders_open c_now_orders_had = some r9) : Met l yX7_checksum (wz yX7_checksum cX7_checksum 4 (some .long)) ({ frames := 4, cells := 0, slots := 0, locals := 88 }) (va_Pc [.ref a0] (rp D cI cJ cZ cS B0 [oX7 a0 a_now a_past c_acts c_nextSlot a_plan a_picker a_rest a_packed, oX6 a_now c_now_today c_now_products c_now_itemCount a_now_items a_now_books a_now_terms a_now_shelves a_now_lots a_now_orders, oX5 a_now_shelves c_now_shelves_lanes c_now_shelves_positions c_now_shelves_room c_now_shelves_gap c_now_shelves_places c_now_shelves_picked a_now_shelves_lot a_now_shelves_pieces a_now_shelves_mark a_now_shelves_byDistance, rI cI a_now_shelves_lot 48 c_now_shelves_lot, rI cI a_now_shelves_pieces 48 c_now_shelves_pieces, oX2 a_now_orders c_now_orders_count c_now_orders_gifts a_now_orders_customer a_now_orders_product a_now_orders_open a_now_orders_due a_now_orders_life a_now_orders_byDue a_now_orders_had a_now_orders_stamps, rI cI a_now_orders_open 40 c_now_orders_open, rI cI a_now_orders_had 960 c_now_orders_had] H0)) (va_Ql (fun (r2 : Int64) (_ : Unit) => r2 = r9) (fun _ t => t.heap = H0) (fun q => H0.size ≤ q)) 0 0 (fun q => H0.size ≤ q) := by
  refine Met.ofW (cc := cX7_checksum) (maxL := 4) (ret := (some .long)) (by decide) rfl ?_
  intro p e s m args below meth c s₁ B hml hv
  obtain ⟨rfl, hH, hP, hK, hB0, hE⟩ := hv
  subst hH
  have hx := B.exec
  have hb := B.bytes
  have hr := B.returns
  have hts := atoms_spec (ws := (wz yX7_checksum cX7_checksum 4 (some .long))) B.pre
  have hown : s.vm.findClass RX7 = some m.cls := findClass_of_methodNamed B.named
  have hlocks := B.notSynchronized
  have hAB : ∀ q : Nat, s.heap.size ≤ q → B0 ≤ q := fun q h => Nat.le_trans hB0 h
  have hA : ∀ q : Nat, s.heap.size ≤ q → s.heap.size ≤ q := fun _ h => h
  have hS : va_S (fun q => s.heap.size ≤ q) s.heap s.heap [] := va_S.rf
  have hBn := fun (H : Heap) (locs : List Loc) (h : va_S (fun q => s.heap.size ≤ q) s.heap H locs) => Nat.le_trans hB0 h.1
  have hEn := fun (H : Heap) (locs : List Loc) (h : va_S (fun q => s.heap.size ≤ q) s.heap H locs) => gE_now hE h hAB
  have hl := lv_entry ([.ref a0]) (n := 4) (Nat.le_of_ble_eq_true rfl)
  rw [lg_entry_eq]
  generalize (lg_sl ([.ref a0]) ++ List.replicate (4 - (lg_sl ([.ref a0])).length) Slot.unset).toArray = ls at hl ⊢
  have hl : lv_has ls 4 [(0, .ref a0)] := hl
  obtain ⟨H, hHe⟩ : ∃ H : Heap, H = s.heap := ⟨_, rfl⟩
  have hP : va_P D vwCl [oX7 a0 a_now a_past c_acts c_nextSlot a_plan a_picker a_rest a_packed, oX6 a_now c_now_today c_now_products c_now_itemCount a_now_items a_now_books a_now_terms a_now_shelves a_now_lots a_now_orders, oX5 a_now_shelves c_now_shelves_lanes c_now_shelves_positions c_now_shelves_room c_now_shelves_gap c_now_shelves_places c_now_shelves_picked a_now_shelves_lot a_now_shelves_pieces a_now_shelves_mark a_now_shelves_byDistance, rI cI a_now_shelves_lot 48 c_now_shelves_lot, rI cI a_now_shelves_pieces 48 c_now_shelves_pieces, oX2 a_now_orders c_now_orders_count c_now_orders_gifts a_now_orders_customer a_now_orders_product a_now_orders_open a_now_orders_due a_now_orders_life a_now_orders_byDue a_now_orders_had a_now_orders_stamps, rI cI a_now_orders_open 40 c_now_orders_open, rI cI a_now_orders_had 960 c_now_orders_had] H := by rw [hHe]; exact hP
  have hS : va_S (fun q => s.heap.size ≤ q) s.heap H [] := by rw [hHe]; exact hS
  refine W_heq hHe ?_
  unfold f_X7_checksum at hf
  refine gen_go (fun WW hWW => ?_)
  have hL15 : ∀ (n : Nat) (n1 : Int64) (n3 : Int32) (e1 : Int64), loop (fun z => f_X7_checksum_L15 c_now_today c_now_shelves_places c_now_shelves_lot c_now_shelves_pieces c_now_orders_count c_now_orders_open c_now_orders_had z.1 z.2) n (n1, n3) = some e1 → (∀ (ls : Array Slot), lv_has ls 4 [(0, .ref a0), (1, .long e1)] → WW (F0 m 75 ls [])) → ∀ (ls : Array Slot), lv_has ls 4 [(0, .ref a0), (1, .long n1), (3, .int n3)] → WW (F0 m 15 ls []) := by
    intro n
    induction n with
    | zero =>
      intro n1 n3 e1 hlp
      exact absurd hlp (by simp [loop])
    | succ n ih =>
      intro n1 n3 e1 hlp K ls hl
      obtain ⟨x9, hf, hlp⟩ := loop_s hlp
      have hf : f_X7_checksum_L15 c_now_today c_now_shelves_places c_now_shelves_lot c_now_shelves_pieces c_now_orders_count c_now_orders_open c_now_orders_had n1 n3 = some x9 := hf
      unfold f_X7_checksum_L15 at hf
      refine (hWW _).mpr ?_
      refine lv_iload_n hx hb dX7_checksum_15 rfl (lv_at hl 2 rfl) ?_
      refine lv_aload_n hx hb dX7_checksum_16 rfl (lv_at hl 0 rfl) ?_
      refine va_get (D := D) (ci := 6) (v := .ref a_now) (C := RX7) (T := TX7) (N := 8) hx hb hts (fun w h => mb (iX7 w h)) hown hK hP 0 rfl rfl 0 (by decide) (hts _ (mb tb_270)) (fun _ h9 => h9) rfl dX7_checksum_17 ?_
      refine va_get (D := D) (ci := 5) (v := .ref a_now_shelves) (C := RX6) (T := TX6) (N := 9) hx hb hts (fun w h => mb (iX6 w h)) hown hK hP 1 rfl rfl 6 (by decide) (hts _ (mb tb_169)) (fun _ h9 => h9) rfl dX7_checksum_20 ?_
      refine va_get (D := D) (ci := 4) (v := .int c_now_shelves_places) (C := RX5) (T := TX5) (N := 10) hx hb hts (fun w h => mb (iX5 w h)) hown hK hP 2 rfl rfl 4 (by decide) (hts _ (mb tb_49)) (fun _ h9 => h9) rfl dX7_checksum_23 ?_
      refine lv_icmp_ge (tgt := 75) hx hb dX7_checksum_26 (by decide) (fun h1 => ?_) (fun h1 => ?_)
      · have hf := ipos h1 hf
        obtain rfl := Option.some.inj hf
        cases lpx_r hlp
        exact (hWW _).mp (K ls (lv_sub hl [0, 1] rfl))
      · have hf := ineg h1 hf
        refine lv_ldc2 hx hb hown (hts _ (mb tb_422)) dX7_checksum_29 ?_
        refine lv_lload_n hx hb dX7_checksum_32 rfl (lv_at hl 1 rfl) ?_
        refine lv_lmul hx hb dX7_checksum_33 ?_
        refine lv_aload_n hx hb dX7_checksum_34 rfl (lv_at hl 0 rfl) ?_
        refine va_get (D := D) (ci := 6) (v := .ref a_now) (C := RX7) (T := TX7) (N := 8) hx hb hts (fun w h => mb (iX7 w h)) hown hK hP 0 rfl rfl 0 (by decide) (hts _ (mb tb_270)) (fun _ h9 => h9) rfl dX7_checksum_35 ?_
        refine va_get (D := D) (ci := 5) (v := .ref a_now_shelves) (C := RX6) (T := TX6) (N := 9) hx hb hts (fun w h => mb (iX6 w h)) hown hK hP 1 rfl rfl 6 (by decide) (hts _ (mb tb_169)) (fun _ h9 => h9) rfl dX7_checksum_38 ?_
        refine va_get (D := D) (ci := 4) (v := .ref a_now_shelves_lot) (C := RX5) (T := TX5) (N := 10) hx hb hts (fun w h => mb (iX5 w h)) hown hK hP 2 rfl rfl 6 (by decide) (hts _ (mb tb_53)) (fun _ h9 => h9) rfl dX7_checksum_41 ?_
        refine lv_iload_n hx hb dX7_checksum_44 rfl (lv_at hl 2 rfl) ?_
        obtain ⟨h2, hf⟩ := ob_d hf
        refine va_iald hx hb hK hP 3 0 rfl rfl h2 dX7_checksum_45 ?_
        refine lv_i2l hx hb dX7_checksum_46 rfl ?_
        refine lv_ladd hx hb dX7_checksum_47 ?_
        refine lv_lstore_n (lv' := [(1, .long ((31 * n1) + ((c_now_shelves_lot n3.toNatClampNeg).toInt64))), (0, .ref a0), (3, .int n3)]) hx hb dX7_checksum_48 rfl hl (by decide) rfl (fun ls hl => ?_)
        refine lv_ldc2 hx hb hown (hts _ (mb tb_422)) dX7_checksum_49 ?_
        refine lv_lload_n hx hb dX7_checksum_52 rfl (lv_at hl 0 rfl) ?_
        refine lv_lmul hx hb dX7_checksum_53 ?_
        refine lv_aload_n hx hb dX7_checksum_54 rfl (lv_at hl 1 rfl) ?_
        refine va_get (D := D) (ci := 6) (v := .ref a_now) (C := RX7) (T := TX7) (N := 8) hx hb hts (fun w h => mb (iX7 w h)) hown hK hP 0 rfl rfl 0 (by decide) (hts _ (mb tb_270)) (fun _ h9 => h9) rfl dX7_checksum_55 ?_
        refine va_get (D := D) (ci := 5) (v := .ref a_now_shelves) (C := RX6) (T := TX6) (N := 9) hx hb hts (fun w h => mb (iX6 w h)) hown hK hP 1 rfl rfl 6 (by decide) (hts _ (mb tb_169)) (fun _ h9 => h9) rfl dX7_checksum_58 ?_
        refine va_get (D := D) (ci := 4) (v := .ref a_now_shelves_pieces) (C := RX5) (T := TX5) (N := 10) hx hb hts (fun w h => mb (iX5 w h)) hown hK hP 2 rfl rfl 7 (by decide) (hts _ (mb tb_55)) (fun _ h9 => h9) rfl dX7_checksum_61 ?_
        refine lv_iload_n hx hb dX7_checksum_64 rfl (lv_at hl 2 rfl) ?_
        obtain ⟨h3, hf⟩ := ob_d hf
        refine va_iald hx hb hK hP 4 0 rfl rfl h3 dX7_checksum_65 ?_
        refine lv_i2l hx hb dX7_checksum_66 rfl ?_
        refine lv_ladd hx hb dX7_checksum_67 ?_
        refine lv_lstore_n (lv' := [(1, .long ((31 * ((31 * n1) + ((c_now_shelves_lot n3.toNatClampNeg).toInt64))) + ((c_now_shelves_pieces n3.toNatClampNeg).toInt64))), (0, .ref a0), (3, .int n3)]) hx hb dX7_checksum_68 rfl hl (by decide) rfl (fun ls hl => ?_)
        refine lv_iinc (v := (n3 + 1)) (lv' := [(3, .int (n3 + 1)), (1, .long ((31 * ((31 * n1) + ((c_now_shelves_lot n3.toNatClampNeg).toInt64))) + ((c_now_shelves_pieces n3.toNatClampNeg).toInt64))), (0, .ref a0)]) hx hb dX7_checksum_69 hl (k := 2) rfl rfl (by decide) rfl (fun ls hl => ?_)
        refine lv_goto (tgt := 15) hx hb dX7_checksum_72 (by decide) ?_
        obtain rfl := Option.some.inj hf
        exact (hWW _).mp (ih  _ _ _ hlp K ls (lv_sub hl [2, 1, 0] rfl))
  have hL77 : ∀ (n : Nat) (n1 : Int64) (n3 : Int32) (e1 : Int64), loop (fun z => f_X7_checksum_L77 c_now_today c_now_shelves_places c_now_shelves_lot c_now_shelves_pieces c_now_orders_count c_now_orders_open c_now_orders_had z.1 z.2) n (n1, n3) = some e1 → (∀ (ls : Array Slot), lv_has ls 4 [(1, .long e1)] → WW (F0 m 136 ls [])) → ∀ (ls : Array Slot), lv_has ls 4 [(0, .ref a0), (1, .long n1), (3, .int n3)] → WW (F0 m 77 ls []) := by
    intro n
    induction n with
    | zero =>
      intro n1 n3 e1 hlp
      exact absurd hlp (by simp [loop])
    | succ n ih =>
      intro n1 n3 e1 hlp K ls hl
      obtain ⟨x9, hf, hlp⟩ := loop_s hlp
      have hf : f_X7_checksum_L77 c_now_today c_now_shelves_places c_now_shelves_lot c_now_shelves_pieces c_now_orders_count c_now_orders_open c_now_orders_had n1 n3 = some x9 := hf
      unfold f_X7_checksum_L77 at hf
      refine (hWW _).mpr ?_
      refine lv_iload_n hx hb dX7_checksum_77 rfl (lv_at hl 2 rfl) ?_
      refine lv_aload_n hx hb dX7_checksum_78 rfl (lv_at hl 0 rfl) ?_
      refine va_get (D := D) (ci := 6) (v := .ref a_now) (C := RX7) (T := TX7) (N := 8) hx hb hts (fun w h => mb (iX7 w h)) hown hK hP 0 rfl rfl 0 (by decide) (hts _ (mb tb_270)) (fun _ h9 => h9) rfl dX7_checksum_79 ?_
      refine va_get (D := D) (ci := 5) (v := .ref a_now_orders) (C := RX6) (T := TX6) (N := 9) hx hb hts (fun w h => mb (iX6 w h)) hown hK hP 1 rfl rfl 8 (by decide) (hts _ (mb tb_173)) (fun _ h9 => h9) rfl dX7_checksum_82 ?_
      refine va_get (D := D) (ci := 1) (v := .int c_now_orders_count) (C := RX2) (T := TX2) (N := 10) hx hb hts (fun w h => mb (iX2 w h)) hown hK hP 5 rfl rfl 0 (by decide) (hts _ (mb tb_120)) (fun _ h9 => h9) rfl dX7_checksum_85 ?_
      refine lv_icmp_ge (tgt := 136) hx hb dX7_checksum_88 (by decide) (fun h6 => ?_) (fun h6 => ?_)
      · have hf := ipos h6 hf
        obtain rfl := Option.some.inj hf
        cases lpx_r hlp
        exact (hWW _).mp (K ls (lv_sub hl [1] rfl))
      · have hf := ineg h6 hf
        refine lv_ldc2 hx hb hown (hts _ (mb tb_422)) dX7_checksum_91 ?_
        refine lv_lload_n hx hb dX7_checksum_94 rfl (lv_at hl 1 rfl) ?_
        refine lv_lmul hx hb dX7_checksum_95 ?_
        refine lv_aload_n hx hb dX7_checksum_96 rfl (lv_at hl 0 rfl) ?_
        refine va_get (D := D) (ci := 6) (v := .ref a_now) (C := RX7) (T := TX7) (N := 8) hx hb hts (fun w h => mb (iX7 w h)) hown hK hP 0 rfl rfl 0 (by decide) (hts _ (mb tb_270)) (fun _ h9 => h9) rfl dX7_checksum_97 ?_
        refine va_get (D := D) (ci := 5) (v := .ref a_now_orders) (C := RX6) (T := TX6) (N := 9) hx hb hts (fun w h => mb (iX6 w h)) hown hK hP 1 rfl rfl 8 (by decide) (hts _ (mb tb_173)) (fun _ h9 => h9) rfl dX7_checksum_100 ?_
        refine va_get (D := D) (ci := 1) (v := .ref a_now_orders_open) (C := RX2) (T := TX2) (N := 10) hx hb hts (fun w h => mb (iX2 w h)) hown hK hP 5 rfl rfl 4 (by decide) (hts _ (mb tb_127)) (fun _ h9 => h9) rfl dX7_checksum_103 ?_
        refine lv_iload_n hx hb dX7_checksum_106 rfl (lv_at hl 2 rfl) ?_
        obtain ⟨h7, hf⟩ := ob_d hf
        refine va_iald hx hb hK hP 6 0 rfl rfl h7 dX7_checksum_107 ?_
        refine lv_i2l hx hb dX7_checksum_108 rfl ?_
        refine lv_ladd hx hb dX7_checksum_109 ?_
        refine lv_lstore_n (lv' := [(1, .long ((31 * n1) + ((c_now_orders_open n3.toNatClampNeg).toInt64))), (0, .ref a0), (3, .int n3)]) hx hb dX7_checksum_110 rfl hl (by decide) rfl (fun ls hl => ?_)
        refine lv_ldc2 hx hb hown (hts _ (mb tb_422)) dX7_checksum_111 ?_
        refine lv_lload_n hx hb dX7_checksum_114 rfl (lv_at hl 0 rfl) ?_
        refine lv_lmul hx hb dX7_checksum_115 ?_
        refine lv_aload_n hx hb dX7_checksum_116 rfl (lv_at hl 1 rfl) ?_
        refine va_get (D := D) (ci := 6) (v := .ref a_now) (C := RX7) (T := TX7) (N := 8) hx hb hts (fun w h => mb (iX7 w h)) hown hK hP 0 rfl rfl 0 (by decide) (hts _ (mb tb_270)) (fun _ h9 => h9) rfl dX7_checksum_117 ?_
        refine va_get (D := D) (ci := 5) (v := .ref a_now_orders) (C := RX6) (T := TX6) (N := 9) hx hb hts (fun w h => mb (iX6 w h)) hown hK hP 1 rfl rfl 8 (by decide) (hts _ (mb tb_173)) (fun _ h9 => h9) rfl dX7_checksum_120 ?_
        refine lv_iload_n hx hb dX7_checksum_123 rfl (lv_at hl 2 rfl) ?_
        obtain ⟨r8, hc9, hf⟩ := ob1 hf
        refine ro_calli (r := r8) (va_runV (As := [.int n3]) (rest := [.long (31 * ((31 * n1) + ((c_now_orders_open n3.toNatClampNeg).toInt64)))]) ⟨hx, hb, hml, hown, hts⟩ (k_X2_piecesAt l hl0 D cI cJ cZ cS B0 H a_now_orders a_now_orders_customer a_now_orders_product a_now_orders_open a_now_orders_due a_now_orders_life a_now_orders_byDue a_now_orders_had a_now_orders_stamps c_now_orders_count c_now_orders_gifts c_now_orders_had n3 r8 hc9) (cwV 1 hts (gV tb_409 tb_410 tb_411 tb_5 tb_412) rfl rfl rfl (by decide +kernel) ⟨Nat.le_of_ble_eq_true rfl, Nat.le_of_ble_eq_true rfl⟩) ⟨rp_blind, va_recv hK hP (ci := 1) (q0 := 5) rfl rfl, rp_pre (hP.sub [5, 7] rfl) hK (hBn _ _ hS) (hEn _ _ hS)⟩ rfl rfl hl.1 rfl (lv_room (Nat.le_of_ble_eq_true rfl)) dX7_checksum_124 ⟨Nat.le_of_ble_eq_true rfl, Nat.le_of_ble_eq_true rfl⟩) ?_
        refine lv_i2l hx hb dX7_checksum_127 rfl ?_
        refine lv_ladd hx hb dX7_checksum_128 ?_
        refine lv_lstore_n (lv' := [(1, .long ((31 * ((31 * n1) + ((c_now_orders_open n3.toNatClampNeg).toInt64))) + r8.toInt64)), (0, .ref a0), (3, .int n3)]) hx hb dX7_checksum_129 rfl hl (by decide) rfl (fun ls hl => ?_)
        refine lv_iinc (v := (n3 + 1)) (lv' := [(3, .int (n3 + 1)), (1, .long ((31 * ((31 * n1) + ((c_now_orders_open n3.toNatClampNeg).toInt64))) + r8.toInt64)), (0, .ref a0)]) hx hb dX7_checksum_130 hl (k := 2) rfl rfl (by decide) rfl (fun ls hl => ?_)
        refine lv_goto (tgt := 77) hx hb dX7_checksum_133 (by decide) ?_
        obtain rfl := Option.some.inj hf
        exact (hWW _).mp (ih  _ _ _ hlp K ls (lv_sub hl [2, 1, 0] rfl))
  refine (hWW _).mpr ?_
  refine lv_ldc2 hx hb hown (hts _ (mb tb_421)) dX7_checksum_0 ?_
  refine lv_aload_n hx hb dX7_checksum_3 rfl (lv_at hl 0 rfl) ?_
  refine va_get (D := D) (ci := 6) (v := .ref a_now) (C := RX7) (T := TX7) (N := 8) hx hb hts (fun w h => mb (iX7 w h)) hown hK hP 0 rfl rfl 0 (by decide) (hts _ (mb tb_270)) (fun _ h9 => h9) rfl dX7_checksum_4 ?_
  refine va_get (D := D) (ci := 5) (v := .int c_now_today) (C := RX6) (T := TX6) (N := 9) hx hb hts (fun w h => mb (iX6 w h)) hown hK hP 1 rfl rfl 0 (by decide) (hts _ (mb tb_157)) (fun _ h9 => h9) rfl dX7_checksum_7 ?_
  refine lv_i2l hx hb dX7_checksum_10 rfl ?_
  refine lv_ladd hx hb dX7_checksum_11 ?_
  refine lv_lstore_n (lv' := [(1, .long (527 + c_now_today.toInt64)), (0, .ref a0)]) hx hb dX7_checksum_12 rfl hl (by decide) rfl (fun ls hl => ?_)
  refine lv_iconst (v := 0) hx hb dX7_checksum_13 (by decide) ?_
  refine lv_istore_n (lv' := [(3, .int 0), (1, .long (527 + c_now_today.toInt64)), (0, .ref a0)]) hx hb dX7_checksum_14 rfl hl (by decide) rfl (fun ls hl => ?_)
  obtain ⟨m5, hc4, hf⟩ := ob1 hf
  refine (hWW _).mp (hL15 fu _ _ _ hc4 (fun ls hl => ?_) ls (lv_sub hl [2, 1, 0] rfl))
  · refine (hWW _).mpr ?_
    refine lv_iconst (v := 0) hx hb dX7_checksum_75 (by decide) ?_
    refine lv_istore_n (lv' := [(3, .int 0), (0, .ref a0), (1, .long m5)]) hx hb dX7_checksum_76 rfl hl (by decide) rfl (fun ls hl => ?_)
    obtain ⟨m11, hc10, hf⟩ := ob1 hf
    refine (hWW _).mp (hL77 fu _ _ _ hc10 (fun ls hl => ?_) ls (lv_sub hl [1, 2, 0] rfl))
    · refine (hWW _).mpr ?_
      refine lv_lload_n hx hb dX7_checksum_136 rfl (lv_at hl 0 rfl) ?_
      cases hf
      exact W.lret hx hb hr (fun t ht hW => ⟨⟨_, (), rfl, rfl, (ht.trans hHe)⟩, hS.F ht⟩) hS.2.2 dX7_checksum_137
def f_X7_greatestLack_L4_J54 (n1 : Int32) (n2 : Int32) (n3 : Int32) (c_now_shelves_places : Int32) (c_now_shelves_lot : Nat → Int32) (c_now_shelves_pieces : Nat → Int32) (c_now_lots_count : Int32) (c_now_lots_product : Nat → Int32) (c_now_lots_last : Nat → Int32) (c_now_lots_state : Nat → Int32) (c_now_orders_count : Int32) (c_now_orders_product : Nat → Int32) (c_now_orders_open : Nat → Int32) (c_now_orders_due : Nat → Int32) (c_now_orders_life : Nat → Int32) (c_rest : Nat → Int32) : Option ((Int32 × Int32 × (Nat → Int32)) ⊕ (Int32 × (Nat → Int32))) :=
  some (.inl (n2, n3 + 1, c_rest))
def f_X7_greatestLack_L4 (n1 : Int32) (c_now_shelves_places : Int32) (c_now_shelves_lot : Nat → Int32) (c_now_shelves_pieces : Nat → Int32) (c_now_lots_count : Int32) (c_now_lots_product : Nat → Int32) (c_now_lots_last : Nat → Int32) (c_now_lots_state : Nat → Int32) (c_now_orders_count : Int32) (c_now_orders_product : Nat → Int32) (c_now_orders_open : Nat → Int32) (c_now_orders_due : Nat → Int32) (c_now_orders_life : Nat → Int32) (n2 : Int32) (n3 : Int32) (c_rest : Nat → Int32) : Option ((Int32 × Int32 × (Nat → Int32)) ⊕ (Int32 × (Nat → Int32))) :=
  (if c_now_orders_count ≤ n3 then some (.inr (n2, c_rest))
  else bnd1 (f_X2_isOf n3 n1 c_now_orders_count c_now_orders_product) (fun r2 =>
  ((if r2 = 0 then f_X7_greatestLack_L4_J54 n1 n2 n3 c_now_shelves_places c_now_shelves_lot c_now_shelves_pieces c_now_lots_count c_now_lots_product c_now_lots_last c_now_lots_state c_now_orders_count c_now_orders_product c_now_orders_open c_now_orders_due c_now_orders_life c_rest
  else bnd1 (f_X2_wantedDay n3 c_now_orders_count c_now_orders_due c_now_orders_life) (fun r5 =>
  (bnd2 (f_X7_lackAt n1 r5 c_now_shelves_places c_now_shelves_lot c_now_shelves_pieces c_now_lots_count c_now_lots_product c_now_lots_last c_now_lots_state c_now_orders_count c_now_orders_product c_now_orders_open c_now_orders_due c_now_orders_life c_rest) (fun r7 o9 =>
  (f_X7_greatestLack_L4_J54 n1 (if n2 < r7 then r7 else n2) n3 c_now_shelves_places c_now_shelves_lot c_now_shelves_pieces c_now_lots_count c_now_lots_product c_now_lots_last c_now_lots_state c_now_orders_count c_now_orders_product c_now_orders_open c_now_orders_due c_now_orders_life o9))))))))
def f_X7_greatestLack (v1 : Int32) (c_now_shelves_places : Int32) (c_now_shelves_lot : Nat → Int32) (c_now_shelves_pieces : Nat → Int32) (c_now_lots_count : Int32) (c_now_lots_product : Nat → Int32) (c_now_lots_last : Nat → Int32) (c_now_lots_state : Nat → Int32) (c_now_orders_count : Int32) (c_now_orders_product : Nat → Int32) (c_now_orders_open : Nat → Int32) (c_now_orders_due : Nat → Int32) (c_now_orders_life : Nat → Int32) (c_rest : Nat → Int32) : Option (Int32 × (Nat → Int32)) :=
  (bnd2 (loop (fun z => f_X7_greatestLack_L4 v1 c_now_shelves_places c_now_shelves_lot c_now_shelves_pieces c_now_lots_count c_now_lots_product c_now_lots_last c_now_lots_state c_now_orders_count c_now_orders_product c_now_orders_open c_now_orders_due c_now_orders_life z.1 z.2.1 z.2.2) fu (0, 0, c_rest)) fun m11 c12 =>
  some (m11, c12))
set_option maxHeartbeats 4000000 in
set_option maxRecDepth 100000 in
theorem k_X7_greatestLack (l : Launch) (hl0 : l.stackTraces = false) (D : va_G) (cI cJ cZ cS : ClassId) (B0 : Nat) (sz : Nat) (a0 a_now a_past a_plan a_picker a_rest a_packed a_now_items a_now_books a_now_terms a_now_shelves a_now_lots a_now_orders a_now_shelves_lot a_now_shelves_pieces a_now_shelves_mark a_now_shelves_byDistance a_now_lots_product a_now_lots_last a_now_lots_cost a_now_lots_state a_now_lots_byLast a_now_orders_customer a_now_orders_product a_now_orders_open a_now_orders_due a_now_orders_life a_now_orders_byDue a_now_orders_had a_now_orders_stamps : Nat) (c_acts : Int32) (c_nextSlot : Int32) (c_now_today : Int32) (c_now_products : Int32) (c_now_itemCount : Int32) (c_now_shelves_lanes : Int32) (c_now_shelves_positions : Int32) (c_now_shelves_room : Int32) (c_now_shelves_gap : Int32) (c_now_shelves_places : Int32) (c_now_shelves_picked : Int64) (c_now_shelves_lot : Nat → Int32) (c_now_shelves_pieces : Nat → Int32) (c_now_lots_count : Int32) (c_now_lots_product : Nat → Int32) (c_now_lots_last : Nat → Int32) (c_now_lots_state : Nat → Int32) (c_now_orders_count : Int32) (c_now_orders_gifts : Int32) (c_now_orders_product : Nat → Int32) (c_now_orders_open : Nat → Int32) (c_now_orders_due : Nat → Int32) (c_now_orders_life : Nat → Int32) (c_rest : Nat → Int32) (v1 : Int32) (r9 : Int32) (oc_rest : Nat → Int32)  (hf : f_X7_greatestLack v1 c_now_shelves_places c_now_shelves_lot c_now_shelves_pieces c_now_lots_count c_now_lots_product c_now_lots_last c_now_lots_state c_now_orders_count c_now_orders_product c_now_orders_open c_now_orders_due c_now_orders_life c_rest = some (r9, oc_rest)) : Met l yX7_greatestLack (wz yX7_greatestLack cX7_greatestLack 4 (some .int)) ({ frames := 4, cells := 0, slots := 0, locals := 90 }) (va_Pc [.ref a0, .int v1] (wp D cI cJ cZ cS B0 [oX7 a0 a_now a_past c_acts c_nextSlot a_plan a_picker a_rest a_packed, oX6 a_now c_now_today c_now_products c_now_itemCount a_now_items a_now_books a_now_terms a_now_shelves a_now_lots a_now_orders, oX5 a_now_shelves c_now_shelves_lanes c_now_shelves_positions c_now_shelves_room c_now_shelves_gap c_now_shelves_places c_now_shelves_picked a_now_shelves_lot a_now_shelves_pieces a_now_shelves_mark a_now_shelves_byDistance, rI cI a_now_shelves_lot 48 c_now_shelves_lot, rI cI a_now_shelves_pieces 48 c_now_shelves_pieces, oX1 a_now_lots c_now_lots_count a_now_lots_product a_now_lots_last a_now_lots_cost a_now_lots_state a_now_lots_byLast, rI cI a_now_lots_product 24 c_now_lots_product, rI cI a_now_lots_last 24 c_now_lots_last, rI cI a_now_lots_state 24 c_now_lots_state, oX2 a_now_orders c_now_orders_count c_now_orders_gifts a_now_orders_customer a_now_orders_product a_now_orders_open a_now_orders_due a_now_orders_life a_now_orders_byDue a_now_orders_had a_now_orders_stamps, rI cI a_now_orders_product 40 c_now_orders_product, rI cI a_now_orders_open 40 c_now_orders_open, rI cI a_now_orders_due 40 c_now_orders_due, rI cI a_now_orders_life 40 c_now_orders_life, rI cI a_rest 24 c_rest] sz)) (va_Qi (fun (r2 : Int32) (_ : Unit) => r2 = r9) (fun _ t => va_P D vwCl [oX7 a0 a_now a_past c_acts c_nextSlot a_plan a_picker a_rest a_packed, oX6 a_now c_now_today c_now_products c_now_itemCount a_now_items a_now_books a_now_terms a_now_shelves a_now_lots a_now_orders, oX5 a_now_shelves c_now_shelves_lanes c_now_shelves_positions c_now_shelves_room c_now_shelves_gap c_now_shelves_places c_now_shelves_picked a_now_shelves_lot a_now_shelves_pieces a_now_shelves_mark a_now_shelves_byDistance, rI cI a_now_shelves_lot 48 c_now_shelves_lot, rI cI a_now_shelves_pieces 48 c_now_shelves_pieces, oX1 a_now_lots c_now_lots_count a_now_lots_product a_now_lots_last a_now_lots_cost a_now_lots_state a_now_lots_byLast, rI cI a_now_lots_product 24 c_now_lots_product, rI cI a_now_lots_last 24 c_now_lots_last, rI cI a_now_lots_state 24 c_now_lots_state, oX2 a_now_orders c_now_orders_count c_now_orders_gifts a_now_orders_customer a_now_orders_product a_now_orders_open a_now_orders_due a_now_orders_life a_now_orders_byDue a_now_orders_had a_now_orders_stamps, rI cI a_now_orders_product 40 c_now_orders_product, rI cI a_now_orders_open 40 c_now_orders_open, rI cI a_now_orders_due 40 c_now_orders_due, rI cI a_now_orders_life 40 c_now_orders_life, rI cI a_rest 24 oc_rest] t.heap) (va_A [oX7 a0 a_now a_past c_acts c_nextSlot a_plan a_picker a_rest a_packed, oX6 a_now c_now_today c_now_products c_now_itemCount a_now_items a_now_books a_now_terms a_now_shelves a_now_lots a_now_orders, oX5 a_now_shelves c_now_shelves_lanes c_now_shelves_positions c_now_shelves_room c_now_shelves_gap c_now_shelves_places c_now_shelves_picked a_now_shelves_lot a_now_shelves_pieces a_now_shelves_mark a_now_shelves_byDistance, rI cI a_now_shelves_lot 48 c_now_shelves_lot, rI cI a_now_shelves_pieces 48 c_now_shelves_pieces, oX1 a_now_lots c_now_lots_count a_now_lots_product a_now_lots_last a_now_lots_cost a_now_lots_state a_now_lots_byLast, rI cI a_now_lots_product 24 c_now_lots_product, rI cI a_now_lots_last 24 c_now_lots_last, rI cI a_now_lots_state 24 c_now_lots_state, oX2 a_now_orders c_now_orders_count c_now_orders_gifts a_now_orders_customer a_now_orders_product a_now_orders_open a_now_orders_due a_now_orders_life a_now_orders_byDue a_now_orders_had a_now_orders_stamps, rI cI a_now_orders_product 40 c_now_orders_product, rI cI a_now_orders_open 40 c_now_orders_open, rI cI a_now_orders_due 40 c_now_orders_due, rI cI a_now_orders_life 40 c_now_orders_life, rI cI a_rest 24 c_rest] sz)) 0 0 (va_A [oX7 a0 a_now a_past c_acts c_nextSlot a_plan a_picker a_rest a_packed, oX6 a_now c_now_today c_now_products c_now_itemCount a_now_items a_now_books a_now_terms a_now_shelves a_now_lots a_now_orders, oX5 a_now_shelves c_now_shelves_lanes c_now_shelves_positions c_now_shelves_room c_now_shelves_gap c_now_shelves_places c_now_shelves_picked a_now_shelves_lot a_now_shelves_pieces a_now_shelves_mark a_now_shelves_byDistance, rI cI a_now_shelves_lot 48 c_now_shelves_lot, rI cI a_now_shelves_pieces 48 c_now_shelves_pieces, oX1 a_now_lots c_now_lots_count a_now_lots_product a_now_lots_last a_now_lots_cost a_now_lots_state a_now_lots_byLast, rI cI a_now_lots_product 24 c_now_lots_product, rI cI a_now_lots_last 24 c_now_lots_last, rI cI a_now_lots_state 24 c_now_lots_state, oX2 a_now_orders c_now_orders_count c_now_orders_gifts a_now_orders_customer a_now_orders_product a_now_orders_open a_now_orders_due a_now_orders_life a_now_orders_byDue a_now_orders_had a_now_orders_stamps, rI cI a_now_orders_product 40 c_now_orders_product, rI cI a_now_orders_open 40 c_now_orders_open, rI cI a_now_orders_due 40 c_now_orders_due, rI cI a_now_orders_life 40 c_now_orders_life, rI cI a_rest 24 c_rest] sz) := by
  refine Met.ofW (cc := cX7_greatestLack) (maxL := 4) (ret := (some .int)) (by decide) rfl ?_
  intro p e s m args below meth c s₁ B hml hv
  obtain ⟨rfl, hsz, hP, hK, hD0, hB0, hE⟩ := hv
  subst hsz
  have hx := B.exec
  have hb := B.bytes
  have hr := B.returns
  have hts := atoms_spec (ws := (wz yX7_greatestLack cX7_greatestLack 4 (some .int))) B.pre
  have hown : s.vm.findClass RX7 = some m.cls := findClass_of_methodNamed B.named
  have hlocks := B.notSynchronized
  have hD := hD0.self (sz := s.heap.size)
  have hAB : ∀ q : Nat, va_A [oX7 a0 a_now a_past c_acts c_nextSlot a_plan a_picker a_rest a_packed, oX6 a_now c_now_today c_now_products c_now_itemCount a_now_items a_now_books a_now_terms a_now_shelves a_now_lots a_now_orders, oX5 a_now_shelves c_now_shelves_lanes c_now_shelves_positions c_now_shelves_room c_now_shelves_gap c_now_shelves_places c_now_shelves_picked a_now_shelves_lot a_now_shelves_pieces a_now_shelves_mark a_now_shelves_byDistance, rI cI a_now_shelves_lot 48 c_now_shelves_lot, rI cI a_now_shelves_pieces 48 c_now_shelves_pieces, oX1 a_now_lots c_now_lots_count a_now_lots_product a_now_lots_last a_now_lots_cost a_now_lots_state a_now_lots_byLast, rI cI a_now_lots_product 24 c_now_lots_product, rI cI a_now_lots_last 24 c_now_lots_last, rI cI a_now_lots_state 24 c_now_lots_state, oX2 a_now_orders c_now_orders_count c_now_orders_gifts a_now_orders_customer a_now_orders_product a_now_orders_open a_now_orders_due a_now_orders_life a_now_orders_byDue a_now_orders_had a_now_orders_stamps, rI cI a_now_orders_product 40 c_now_orders_product, rI cI a_now_orders_open 40 c_now_orders_open, rI cI a_now_orders_due 40 c_now_orders_due, rI cI a_now_orders_life 40 c_now_orders_life, rI cI a_rest 24 c_rest] s.heap.size q → B0 ≤ q := va_A_B hD0 hB0
  generalize hAe : va_A [oX7 a0 a_now a_past c_acts c_nextSlot a_plan a_picker a_rest a_packed, oX6 a_now c_now_today c_now_products c_now_itemCount a_now_items a_now_books a_now_terms a_now_shelves a_now_lots a_now_orders, oX5 a_now_shelves c_now_shelves_lanes c_now_shelves_positions c_now_shelves_room c_now_shelves_gap c_now_shelves_places c_now_shelves_picked a_now_shelves_lot a_now_shelves_pieces a_now_shelves_mark a_now_shelves_byDistance, rI cI a_now_shelves_lot 48 c_now_shelves_lot, rI cI a_now_shelves_pieces 48 c_now_shelves_pieces, oX1 a_now_lots c_now_lots_count a_now_lots_product a_now_lots_last a_now_lots_cost a_now_lots_state a_now_lots_byLast, rI cI a_now_lots_product 24 c_now_lots_product, rI cI a_now_lots_last 24 c_now_lots_last, rI cI a_now_lots_state 24 c_now_lots_state, oX2 a_now_orders c_now_orders_count c_now_orders_gifts a_now_orders_customer a_now_orders_product a_now_orders_open a_now_orders_due a_now_orders_life a_now_orders_byDue a_now_orders_had a_now_orders_stamps, rI cI a_now_orders_product 40 c_now_orders_product, rI cI a_now_orders_open 40 c_now_orders_open, rI cI a_now_orders_due 40 c_now_orders_due, rI cI a_now_orders_life 40 c_now_orders_life, rI cI a_rest 24 c_rest] s.heap.size = A at hD hAB ⊢
  have hA : ∀ q : Nat, s.heap.size ≤ q → A q := fun q h => by rw [← hAe]; exact Or.inr h
  have hFa := hA
  have hS : va_S A s.heap s.heap [] := va_S.rf
  have hBn := fun (H : Heap) (locs : List Loc) (h : va_S A s.heap H locs) => Nat.le_trans hB0 h.1
  have hEn := fun (H : Heap) (locs : List Loc) (h : va_S A s.heap H locs) => gE_now hE h hAB
  have hl := lv_entry ([.ref a0, .int v1]) (n := 4) (Nat.le_of_ble_eq_true rfl)
  rw [lg_entry_eq]
  generalize (lg_sl ([.ref a0, .int v1]) ++ List.replicate (4 - (lg_sl ([.ref a0, .int v1])).length) Slot.unset).toArray = ls at hl ⊢
  have hl : lv_has ls 4 [(0, .ref a0), (1, .int v1)] := hl
  obtain ⟨H, hHe⟩ : ∃ H : Heap, H = s.heap := ⟨_, rfl⟩
  have hP : va_P D vwCl [oX7 a0 a_now a_past c_acts c_nextSlot a_plan a_picker a_rest a_packed, oX6 a_now c_now_today c_now_products c_now_itemCount a_now_items a_now_books a_now_terms a_now_shelves a_now_lots a_now_orders, oX5 a_now_shelves c_now_shelves_lanes c_now_shelves_positions c_now_shelves_room c_now_shelves_gap c_now_shelves_places c_now_shelves_picked a_now_shelves_lot a_now_shelves_pieces a_now_shelves_mark a_now_shelves_byDistance, rI cI a_now_shelves_lot 48 c_now_shelves_lot, rI cI a_now_shelves_pieces 48 c_now_shelves_pieces, oX1 a_now_lots c_now_lots_count a_now_lots_product a_now_lots_last a_now_lots_cost a_now_lots_state a_now_lots_byLast, rI cI a_now_lots_product 24 c_now_lots_product, rI cI a_now_lots_last 24 c_now_lots_last, rI cI a_now_lots_state 24 c_now_lots_state, oX2 a_now_orders c_now_orders_count c_now_orders_gifts a_now_orders_customer a_now_orders_product a_now_orders_open a_now_orders_due a_now_orders_life a_now_orders_byDue a_now_orders_had a_now_orders_stamps, rI cI a_now_orders_product 40 c_now_orders_product, rI cI a_now_orders_open 40 c_now_orders_open, rI cI a_now_orders_due 40 c_now_orders_due, rI cI a_now_orders_life 40 c_now_orders_life, rI cI a_rest 24 c_rest] H := by rw [hHe]; exact hP
  have hS : va_S A s.heap H [] := by rw [hHe]; exact hS
  refine W_heq hHe ?_
  unfold f_X7_greatestLack at hf
  refine gen_goW (fun WW hWW => ?_)
  have hL4 : ∀ (n : Nat) (n1 : Int32) (n2 : Int32) (n3 : Int32) (c_rest : Nat → Int32) (e2 : Int32) (e_c_rest : Nat → Int32), loop (fun z => f_X7_greatestLack_L4 n1 c_now_shelves_places c_now_shelves_lot c_now_shelves_pieces c_now_lots_count c_now_lots_product c_now_lots_last c_now_lots_state c_now_orders_count c_now_orders_product c_now_orders_open c_now_orders_due c_now_orders_life z.1 z.2.1 z.2.2) n (n2, n3, c_rest) = some (e2, e_c_rest) → (∀ (H : Heap) (locs : List Loc) (ls : Array Slot), va_P D vwCl [oX7 a0 a_now a_past c_acts c_nextSlot a_plan a_picker a_rest a_packed, oX6 a_now c_now_today c_now_products c_now_itemCount a_now_items a_now_books a_now_terms a_now_shelves a_now_lots a_now_orders, oX5 a_now_shelves c_now_shelves_lanes c_now_shelves_positions c_now_shelves_room c_now_shelves_gap c_now_shelves_places c_now_shelves_picked a_now_shelves_lot a_now_shelves_pieces a_now_shelves_mark a_now_shelves_byDistance, rI cI a_now_shelves_lot 48 c_now_shelves_lot, rI cI a_now_shelves_pieces 48 c_now_shelves_pieces, oX1 a_now_lots c_now_lots_count a_now_lots_product a_now_lots_last a_now_lots_cost a_now_lots_state a_now_lots_byLast, rI cI a_now_lots_product 24 c_now_lots_product, rI cI a_now_lots_last 24 c_now_lots_last, rI cI a_now_lots_state 24 c_now_lots_state, oX2 a_now_orders c_now_orders_count c_now_orders_gifts a_now_orders_customer a_now_orders_product a_now_orders_open a_now_orders_due a_now_orders_life a_now_orders_byDue a_now_orders_had a_now_orders_stamps, rI cI a_now_orders_product 40 c_now_orders_product, rI cI a_now_orders_open 40 c_now_orders_open, rI cI a_now_orders_due 40 c_now_orders_due, rI cI a_now_orders_life 40 c_now_orders_life, rI cI a_rest 24 e_c_rest] H → va_D A [oX7 a0 a_now a_past c_acts c_nextSlot a_plan a_picker a_rest a_packed, oX6 a_now c_now_today c_now_products c_now_itemCount a_now_items a_now_books a_now_terms a_now_shelves a_now_lots a_now_orders, oX5 a_now_shelves c_now_shelves_lanes c_now_shelves_positions c_now_shelves_room c_now_shelves_gap c_now_shelves_places c_now_shelves_picked a_now_shelves_lot a_now_shelves_pieces a_now_shelves_mark a_now_shelves_byDistance, rI cI a_now_shelves_lot 48 c_now_shelves_lot, rI cI a_now_shelves_pieces 48 c_now_shelves_pieces, oX1 a_now_lots c_now_lots_count a_now_lots_product a_now_lots_last a_now_lots_cost a_now_lots_state a_now_lots_byLast, rI cI a_now_lots_product 24 c_now_lots_product, rI cI a_now_lots_last 24 c_now_lots_last, rI cI a_now_lots_state 24 c_now_lots_state, oX2 a_now_orders c_now_orders_count c_now_orders_gifts a_now_orders_customer a_now_orders_product a_now_orders_open a_now_orders_due a_now_orders_life a_now_orders_byDue a_now_orders_had a_now_orders_stamps, rI cI a_now_orders_product 40 c_now_orders_product, rI cI a_now_orders_open 40 c_now_orders_open, rI cI a_now_orders_due 40 c_now_orders_due, rI cI a_now_orders_life 40 c_now_orders_life, rI cI a_rest 24 e_c_rest] → va_S A s.heap H locs → lv_has ls 4 [(2, .int e2)] → WW H locs 0 0 (F0 m 60 ls [])) → ∀ (H : Heap) (locs : List Loc) (ls : Array Slot), va_P D vwCl [oX7 a0 a_now a_past c_acts c_nextSlot a_plan a_picker a_rest a_packed, oX6 a_now c_now_today c_now_products c_now_itemCount a_now_items a_now_books a_now_terms a_now_shelves a_now_lots a_now_orders, oX5 a_now_shelves c_now_shelves_lanes c_now_shelves_positions c_now_shelves_room c_now_shelves_gap c_now_shelves_places c_now_shelves_picked a_now_shelves_lot a_now_shelves_pieces a_now_shelves_mark a_now_shelves_byDistance, rI cI a_now_shelves_lot 48 c_now_shelves_lot, rI cI a_now_shelves_pieces 48 c_now_shelves_pieces, oX1 a_now_lots c_now_lots_count a_now_lots_product a_now_lots_last a_now_lots_cost a_now_lots_state a_now_lots_byLast, rI cI a_now_lots_product 24 c_now_lots_product, rI cI a_now_lots_last 24 c_now_lots_last, rI cI a_now_lots_state 24 c_now_lots_state, oX2 a_now_orders c_now_orders_count c_now_orders_gifts a_now_orders_customer a_now_orders_product a_now_orders_open a_now_orders_due a_now_orders_life a_now_orders_byDue a_now_orders_had a_now_orders_stamps, rI cI a_now_orders_product 40 c_now_orders_product, rI cI a_now_orders_open 40 c_now_orders_open, rI cI a_now_orders_due 40 c_now_orders_due, rI cI a_now_orders_life 40 c_now_orders_life, rI cI a_rest 24 c_rest] H → va_D A [oX7 a0 a_now a_past c_acts c_nextSlot a_plan a_picker a_rest a_packed, oX6 a_now c_now_today c_now_products c_now_itemCount a_now_items a_now_books a_now_terms a_now_shelves a_now_lots a_now_orders, oX5 a_now_shelves c_now_shelves_lanes c_now_shelves_positions c_now_shelves_room c_now_shelves_gap c_now_shelves_places c_now_shelves_picked a_now_shelves_lot a_now_shelves_pieces a_now_shelves_mark a_now_shelves_byDistance, rI cI a_now_shelves_lot 48 c_now_shelves_lot, rI cI a_now_shelves_pieces 48 c_now_shelves_pieces, oX1 a_now_lots c_now_lots_count a_now_lots_product a_now_lots_last a_now_lots_cost a_now_lots_state a_now_lots_byLast, rI cI a_now_lots_product 24 c_now_lots_product, rI cI a_now_lots_last 24 c_now_lots_last, rI cI a_now_lots_state 24 c_now_lots_state, oX2 a_now_orders c_now_orders_count c_now_orders_gifts a_now_orders_customer a_now_orders_product a_now_orders_open a_now_orders_due a_now_orders_life a_now_orders_byDue a_now_orders_had a_now_orders_stamps, rI cI a_now_orders_product 40 c_now_orders_product, rI cI a_now_orders_open 40 c_now_orders_open, rI cI a_now_orders_due 40 c_now_orders_due, rI cI a_now_orders_life 40 c_now_orders_life, rI cI a_rest 24 c_rest] → va_S A s.heap H locs → lv_has ls 4 [(0, .ref a0), (1, .int n1), (2, .int n2), (3, .int n3)] → WW H locs 0 0 (F0 m 4 ls []) := by
    intro n
    induction n with
    | zero =>
      intro n1 n2 n3 c_rest e2 e_c_rest hlp
      exact absurd hlp (by simp [loop])
    | succ n ih =>
      intro n1 n2 n3 c_rest e2 e_c_rest hlp K H locs ls hP hD hS hl
      obtain ⟨x9, hf, hlp⟩ := loop_s hlp
      have hf : f_X7_greatestLack_L4 n1 c_now_shelves_places c_now_shelves_lot c_now_shelves_pieces c_now_lots_count c_now_lots_product c_now_lots_last c_now_lots_state c_now_orders_count c_now_orders_product c_now_orders_open c_now_orders_due c_now_orders_life n2 n3 c_rest = some x9 := hf
      unfold f_X7_greatestLack_L4 at hf
      have hJ54 : ∀ (n2 : Int32) (n3 : Int32) (c_rest : Nat → Int32), f_X7_greatestLack_L4_J54 n1 n2 n3 c_now_shelves_places c_now_shelves_lot c_now_shelves_pieces c_now_lots_count c_now_lots_product c_now_lots_last c_now_lots_state c_now_orders_count c_now_orders_product c_now_orders_open c_now_orders_due c_now_orders_life c_rest = some x9 → ∀ (H : Heap) (locs : List Loc) (ls : Array Slot), va_P D vwCl [oX7 a0 a_now a_past c_acts c_nextSlot a_plan a_picker a_rest a_packed, oX6 a_now c_now_today c_now_products c_now_itemCount a_now_items a_now_books a_now_terms a_now_shelves a_now_lots a_now_orders, oX5 a_now_shelves c_now_shelves_lanes c_now_shelves_positions c_now_shelves_room c_now_shelves_gap c_now_shelves_places c_now_shelves_picked a_now_shelves_lot a_now_shelves_pieces a_now_shelves_mark a_now_shelves_byDistance, rI cI a_now_shelves_lot 48 c_now_shelves_lot, rI cI a_now_shelves_pieces 48 c_now_shelves_pieces, oX1 a_now_lots c_now_lots_count a_now_lots_product a_now_lots_last a_now_lots_cost a_now_lots_state a_now_lots_byLast, rI cI a_now_lots_product 24 c_now_lots_product, rI cI a_now_lots_last 24 c_now_lots_last, rI cI a_now_lots_state 24 c_now_lots_state, oX2 a_now_orders c_now_orders_count c_now_orders_gifts a_now_orders_customer a_now_orders_product a_now_orders_open a_now_orders_due a_now_orders_life a_now_orders_byDue a_now_orders_had a_now_orders_stamps, rI cI a_now_orders_product 40 c_now_orders_product, rI cI a_now_orders_open 40 c_now_orders_open, rI cI a_now_orders_due 40 c_now_orders_due, rI cI a_now_orders_life 40 c_now_orders_life, rI cI a_rest 24 c_rest] H → va_D A [oX7 a0 a_now a_past c_acts c_nextSlot a_plan a_picker a_rest a_packed, oX6 a_now c_now_today c_now_products c_now_itemCount a_now_items a_now_books a_now_terms a_now_shelves a_now_lots a_now_orders, oX5 a_now_shelves c_now_shelves_lanes c_now_shelves_positions c_now_shelves_room c_now_shelves_gap c_now_shelves_places c_now_shelves_picked a_now_shelves_lot a_now_shelves_pieces a_now_shelves_mark a_now_shelves_byDistance, rI cI a_now_shelves_lot 48 c_now_shelves_lot, rI cI a_now_shelves_pieces 48 c_now_shelves_pieces, oX1 a_now_lots c_now_lots_count a_now_lots_product a_now_lots_last a_now_lots_cost a_now_lots_state a_now_lots_byLast, rI cI a_now_lots_product 24 c_now_lots_product, rI cI a_now_lots_last 24 c_now_lots_last, rI cI a_now_lots_state 24 c_now_lots_state, oX2 a_now_orders c_now_orders_count c_now_orders_gifts a_now_orders_customer a_now_orders_product a_now_orders_open a_now_orders_due a_now_orders_life a_now_orders_byDue a_now_orders_had a_now_orders_stamps, rI cI a_now_orders_product 40 c_now_orders_product, rI cI a_now_orders_open 40 c_now_orders_open, rI cI a_now_orders_due 40 c_now_orders_due, rI cI a_now_orders_life 40 c_now_orders_life, rI cI a_rest 24 c_rest] → va_S A s.heap H locs → lv_has ls 4 [(0, .ref a0), (1, .int n1), (2, .int n2), (3, .int n3)] → WW H locs 0 0 (F0 m 54 ls []) := by
        intro n2 n3 c_rest hf H locs ls hP hD hS hl
        unfold f_X7_greatestLack_L4_J54 at hf
        refine (hWW _ _ _ _ _).mpr ?_
        refine lv_iinc (v := (n3 + 1)) (lv' := [(3, .int (n3 + 1)), (0, .ref a0), (1, .int n1), (2, .int n2)]) hx hb dX7_greatestLack_54 hl (k := 3) rfl rfl (by decide) rfl (fun ls hl => ?_)
        refine lv_goto (tgt := 4) hx hb dX7_greatestLack_57 (by decide) ?_
        obtain rfl := Option.some.inj hf
        exact (hWW _ _ _ _ _).mp (ih _ _ _ _ _ _ hlp K _ _ ls hP hD hS (lv_sub hl [1, 2, 3, 0] rfl))
      refine (hWW _ _ _ _ _).mpr ?_
      refine lv_iload_n hx hb dX7_greatestLack_4 rfl (lv_at hl 3 rfl) ?_
      refine lv_aload_n hx hb dX7_greatestLack_5 rfl (lv_at hl 0 rfl) ?_
      refine va_get (D := D) (ci := 6) (v := .ref a_now) (C := RX7) (T := TX7) (N := 8) hx hb hts (fun w h => mb (iX7 w h)) hown hK hP 0 rfl rfl 0 (by decide) (hts _ (mb tb_270)) (fun _ h9 => h9) rfl dX7_greatestLack_6 ?_
      refine va_get (D := D) (ci := 5) (v := .ref a_now_orders) (C := RX6) (T := TX6) (N := 9) hx hb hts (fun w h => mb (iX6 w h)) hown hK hP 1 rfl rfl 8 (by decide) (hts _ (mb tb_173)) (fun _ h9 => h9) rfl dX7_greatestLack_9 ?_
      refine va_get (D := D) (ci := 1) (v := .int c_now_orders_count) (C := RX2) (T := TX2) (N := 10) hx hb hts (fun w h => mb (iX2 w h)) hown hK hP 9 rfl rfl 0 (by decide) (hts _ (mb tb_120)) (fun _ h9 => h9) rfl dX7_greatestLack_12 ?_
      refine lv_icmp_ge (tgt := 60) hx hb dX7_greatestLack_15 (by decide) (fun h1 => ?_) (fun h1 => ?_)
      · have hf := ipos h1 hf
        obtain rfl := Option.some.inj hf
        cases lpx_r hlp
        exact (hWW _ _ _ _ _).mp (K _ _ ls hP hD hS (lv_sub hl [2] rfl))
      · have hf := ineg h1 hf
        refine lv_aload_n hx hb dX7_greatestLack_18 rfl (lv_at hl 0 rfl) ?_
        refine va_get (D := D) (ci := 6) (v := .ref a_now) (C := RX7) (T := TX7) (N := 8) hx hb hts (fun w h => mb (iX7 w h)) hown hK hP 0 rfl rfl 0 (by decide) (hts _ (mb tb_270)) (fun _ h9 => h9) rfl dX7_greatestLack_19 ?_
        refine va_get (D := D) (ci := 5) (v := .ref a_now_orders) (C := RX6) (T := TX6) (N := 9) hx hb hts (fun w h => mb (iX6 w h)) hown hK hP 1 rfl rfl 8 (by decide) (hts _ (mb tb_173)) (fun _ h9 => h9) rfl dX7_greatestLack_22 ?_
        refine lv_iload_n hx hb dX7_greatestLack_25 rfl (lv_at hl 3 rfl) ?_
        refine lv_iload_n hx hb dX7_greatestLack_26 rfl (lv_at hl 1 rfl) ?_
        obtain ⟨r2, hc3, hf⟩ := ob1 hf
        refine ro_calli (r := r2) (va_runV (As := [.int n3, .int n1]) (rest := []) ⟨hx, hb, hml, hown, hts⟩ (k_X2_isOf l hl0 D cI cJ cZ cS B0 H a_now_orders a_now_orders_customer a_now_orders_product a_now_orders_open a_now_orders_due a_now_orders_life a_now_orders_byDue a_now_orders_had a_now_orders_stamps c_now_orders_count c_now_orders_gifts c_now_orders_product n3 n1 r2 hc3) (cwV 2 hts (gV tb_431 tb_432 tb_433 tb_5 tb_434) rfl rfl rfl (by decide +kernel) ⟨Nat.le_of_ble_eq_true rfl, Nat.le_of_ble_eq_true rfl⟩) ⟨rp_blind, va_recv hK hP (ci := 1) (q0 := 9) rfl rfl, rp_pre (hP.sub [9, 10] rfl) hK (hBn _ _ hS) (hEn _ _ hS)⟩ rfl rfl hl.1 rfl (lv_room (Nat.le_of_ble_eq_true rfl)) dX7_greatestLack_27 ⟨Nat.le_of_ble_eq_true rfl, Nat.le_of_ble_eq_true rfl⟩) ?_
        refine lv_if_eq (tgt := 54) hx hb dX7_greatestLack_30 (by decide) (fun h4 => ?_) (fun h4 => ?_)
        · have hf := ipos h4 hf
          exact (hWW _ _ _ _ _).mp (hJ54 _ _ _ hf _ _ ls hP hD hS (lv_sub hl [0, 1, 2, 3] rfl))
        · have hf := ineg h4 hf
          refine lv_iload_n hx hb dX7_greatestLack_33 rfl (lv_at hl 2 rfl) ?_
          refine lv_aload_n hx hb dX7_greatestLack_34 rfl (lv_at hl 0 rfl) ?_
          refine lv_iload_n hx hb dX7_greatestLack_35 rfl (lv_at hl 1 rfl) ?_
          refine lv_aload_n hx hb dX7_greatestLack_36 rfl (lv_at hl 0 rfl) ?_
          refine va_get (D := D) (ci := 6) (v := .ref a_now) (C := RX7) (T := TX7) (N := 8) hx hb hts (fun w h => mb (iX7 w h)) hown hK hP 0 rfl rfl 0 (by decide) (hts _ (mb tb_270)) (fun _ h9 => h9) rfl dX7_greatestLack_37 ?_
          refine va_get (D := D) (ci := 5) (v := .ref a_now_orders) (C := RX6) (T := TX6) (N := 9) hx hb hts (fun w h => mb (iX6 w h)) hown hK hP 1 rfl rfl 8 (by decide) (hts _ (mb tb_173)) (fun _ h9 => h9) rfl dX7_greatestLack_40 ?_
          refine lv_iload_n hx hb dX7_greatestLack_43 rfl (lv_at hl 3 rfl) ?_
          obtain ⟨r5, hc6, hf⟩ := ob1 hf
          refine ro_calli (r := r5) (va_runV (As := [.int n3]) (rest := [.int n1, .ref a0, .int n2]) ⟨hx, hb, hml, hown, hts⟩ (k_X2_wantedDay l hl0 D cI cJ cZ cS B0 H a_now_orders a_now_orders_customer a_now_orders_product a_now_orders_open a_now_orders_due a_now_orders_life a_now_orders_byDue a_now_orders_had a_now_orders_stamps c_now_orders_count c_now_orders_gifts c_now_orders_due c_now_orders_life n3 r5 hc6) (cwV 1 hts (gV tb_354 tb_355 tb_356 tb_5 tb_357) rfl rfl rfl (by decide +kernel) ⟨Nat.le_of_ble_eq_true rfl, Nat.le_of_ble_eq_true rfl⟩) ⟨rp_blind, va_recv hK hP (ci := 1) (q0 := 9) rfl rfl, rp_pre (hP.sub [9, 12, 13] rfl) hK (hBn _ _ hS) (hEn _ _ hS)⟩ rfl rfl hl.1 rfl (lv_room (Nat.le_of_ble_eq_true rfl)) dX7_greatestLack_44 ⟨Nat.le_of_ble_eq_true rfl, Nat.le_of_ble_eq_true rfl⟩) ?_
          obtain ⟨r7, o9, hc8, hf⟩ := ob2 hf
          refine rw_calli (r := r7) (va_runV (As := [.int n1, .int r5]) (rest := [.int n2]) ⟨hx, hb, hml, hown, hts⟩ (k_X7_lackAt l hl0 D cI cJ cZ cS B0 H.size a0 a_now a_past a_plan a_picker a_rest a_packed a_now_items a_now_books a_now_terms a_now_shelves a_now_lots a_now_orders a_now_shelves_lot a_now_shelves_pieces a_now_shelves_mark a_now_shelves_byDistance a_now_lots_product a_now_lots_last a_now_lots_cost a_now_lots_state a_now_lots_byLast a_now_orders_customer a_now_orders_product a_now_orders_open a_now_orders_due a_now_orders_life a_now_orders_byDue a_now_orders_had a_now_orders_stamps c_acts c_nextSlot c_now_today c_now_products c_now_itemCount c_now_shelves_lanes c_now_shelves_positions c_now_shelves_room c_now_shelves_gap c_now_shelves_places c_now_shelves_picked c_now_shelves_lot c_now_shelves_pieces c_now_lots_count c_now_lots_product c_now_lots_last c_now_lots_state c_now_orders_count c_now_orders_gifts c_now_orders_product c_now_orders_open c_now_orders_due c_now_orders_life c_rest n1 r5 r7 o9 hc8) (cwV 2 hts (gV tb_439 tb_441 ts_6 tb_1 tb_442) rfl rfl rfl (by decide +kernel) ⟨Nat.le_of_ble_eq_true rfl, Nat.le_of_ble_eq_true rfl⟩) ⟨wp_blind, va_recv hK hP (ci := 6) (q0 := 0) rfl rfl, wp_pre (hP.sub [0, 1, 2, 3, 4, 5, 6, 7, 8, 9, 10, 11, 12, 13, 14] rfl) hK (va_D.sub (hD.weaken (fun _ _ _ h9 => hAB _ h9)) [0, 1, 2, 3, 4, 5, 6, 7, 8, 9, 10, 11, 12, 13, 14] rfl rfl) (hBn _ _ hS) (hEn _ _ hS)⟩ rfl rfl hl.1 rfl (lv_room (Nat.le_of_ble_eq_true rfl)) dX7_greatestLack_47 ⟨Nat.le_of_ble_eq_true rfl, Nat.le_of_ble_eq_true rfl⟩) hP hD hS hA [oX7 a0 a_now a_past c_acts c_nextSlot a_plan a_picker a_rest a_packed, oX6 a_now c_now_today c_now_products c_now_itemCount a_now_items a_now_books a_now_terms a_now_shelves a_now_lots a_now_orders, oX5 a_now_shelves c_now_shelves_lanes c_now_shelves_positions c_now_shelves_room c_now_shelves_gap c_now_shelves_places c_now_shelves_picked a_now_shelves_lot a_now_shelves_pieces a_now_shelves_mark a_now_shelves_byDistance, rI cI a_now_shelves_lot 48 c_now_shelves_lot, rI cI a_now_shelves_pieces 48 c_now_shelves_pieces, oX1 a_now_lots c_now_lots_count a_now_lots_product a_now_lots_last a_now_lots_cost a_now_lots_state a_now_lots_byLast, rI cI a_now_lots_product 24 c_now_lots_product, rI cI a_now_lots_last 24 c_now_lots_last, rI cI a_now_lots_state 24 c_now_lots_state, oX2 a_now_orders c_now_orders_count c_now_orders_gifts a_now_orders_customer a_now_orders_product a_now_orders_open a_now_orders_due a_now_orders_life a_now_orders_byDue a_now_orders_had a_now_orders_stamps, rI cI a_now_orders_product 40 c_now_orders_product, rI cI a_now_orders_open 40 c_now_orders_open, rI cI a_now_orders_due 40 c_now_orders_due, rI cI a_now_orders_life 40 c_now_orders_life, rI cI a_rest 24 o9] 15 [0, 1, 2, 3, 4, 5, 6, 7, 8, 9, 10, 11, 12, 13, 14] [] rfl rfl rfl rfl (by decide +kernel) rfl (fun H locs hP hD hS => ?_)
          refine va_mmax hx hb (hml.trans hl.1.symm) hown (hts _ (mb tb_448)) (hts _ (mb tb_449)) (hts _ (mb tb_8)) (hts _ (mb wm_max)) (Nat.le_of_ble_eq_true rfl) (Nat.le_of_ble_eq_true rfl) (Nat.zero_le _) (Nat.zero_le _) dX7_greatestLack_50 ?_
          refine lv_istore_n (lv' := [(2, .int (if n2 < r7 then r7 else n2)), (0, .ref a0), (1, .int n1), (3, .int n3)]) hx hb dX7_greatestLack_53 rfl hl (by decide) rfl (fun ls hl => ?_)
          exact (hWW _ _ _ _ _).mp (hJ54 _ _ _ hf _ _ ls hP hD hS (lv_sub hl [1, 2, 0, 3] rfl))
  refine (hWW _ _ _ _ _).mpr ?_
  refine lv_iconst (v := 0) hx hb dX7_greatestLack_0 (by decide) ?_
  refine lv_istore_n (lv' := [(2, .int 0), (0, .ref a0), (1, .int v1)]) hx hb dX7_greatestLack_1 rfl hl (by decide) rfl (fun ls hl => ?_)
  refine lv_iconst (v := 0) hx hb dX7_greatestLack_2 (by decide) ?_
  refine lv_istore_n (lv' := [(3, .int 0), (2, .int 0), (0, .ref a0), (1, .int v1)]) hx hb dX7_greatestLack_3 rfl hl (by decide) rfl (fun ls hl => ?_)
  obtain ⟨m11, c12, hc10, hf⟩ := ob2 hf
  refine (hWW _ _ _ _ _).mp (hL4 fu _ _ _ _ _ _ hc10 (fun H locs ls hP hD hS hl => ?_) _ _ ls hP hD hS (lv_sub hl [2, 3, 1, 0] rfl))
  · refine (hWW _ _ _ _ _).mpr ?_
    refine lv_iload_n hx hb dX7_greatestLack_60 rfl (lv_at hl 0 rfl) ?_
    cases hf
    refine W.widen (k := 0) (n := 0) (Nat.le_of_ble_eq_true rfl) (Nat.le_of_ble_eq_true rfl) ?_
    exact W.iret hx hb hr (fun t ht hW => ⟨⟨_, (), rfl, rfl, (by show va_P D vwCl _ t.heap; rw [ht]; exact hP)⟩, hS.F ht⟩) hS.2.2 dX7_greatestLack_61
def f_X7_doBooksAddUp (c_now_books : Nat → Int32) (c_now_shelves_places : Int32) (c_now_shelves_pieces : Nat → Int32) : Option (Int32) :=
  gd 0 6 (gd 2 6 (gd 5 6 (gd 1 6 (gd 3 6 (gd 4 6 (bnd1 (f_X5_piecesOnHand c_now_shelves_places c_now_shelves_pieces) (fun r7 =>
  ((if ((((c_now_books (0 : Int32).toNatClampNeg) + (c_now_books (2 : Int32).toNatClampNeg)) + (c_now_books (5 : Int32).toNatClampNeg)) - (((c_now_books (1 : Int32).toNatClampNeg) + (c_now_books (3 : Int32).toNatClampNeg)) + (c_now_books (4 : Int32).toNatClampNeg))) = r7 then some 1
  else some 0)))))))))
set_option maxHeartbeats 4000000 in
set_option maxRecDepth 100000 in
theorem k_X7_doBooksAddUp (l : Launch) (hl0 : l.stackTraces = false) (D : va_G) (cI cJ cZ cS : ClassId) (B0 : Nat) (H0 : Heap) (a0 a_now a_past a_plan a_picker a_rest a_packed a_now_items a_now_books a_now_terms a_now_shelves a_now_lots a_now_orders a_now_shelves_lot a_now_shelves_pieces a_now_shelves_mark a_now_shelves_byDistance : Nat) (c_acts : Int32) (c_nextSlot : Int32) (c_now_today : Int32) (c_now_products : Int32) (c_now_itemCount : Int32) (c_now_books : Nat → Int32) (c_now_shelves_lanes : Int32) (c_now_shelves_positions : Int32) (c_now_shelves_room : Int32) (c_now_shelves_gap : Int32) (c_now_shelves_places : Int32) (c_now_shelves_picked : Int64) (c_now_shelves_pieces : Nat → Int32) (r9 : Int32)  (hf : f_X7_doBooksAddUp c_now_books c_now_shelves_places c_now_shelves_pieces = some r9) : Met l yX7_doBooksAddUp (wz yX7_doBooksAddUp cX7_doBooksAddUp 3 (some .boolean)) ({ frames := 1, cells := 0, slots := 0, locals := 22 }) (va_Pc [.ref a0] (rp D cI cJ cZ cS B0 [oX7 a0 a_now a_past c_acts c_nextSlot a_plan a_picker a_rest a_packed, oX6 a_now c_now_today c_now_products c_now_itemCount a_now_items a_now_books a_now_terms a_now_shelves a_now_lots a_now_orders, rI cI a_now_books 6 c_now_books, oX5 a_now_shelves c_now_shelves_lanes c_now_shelves_positions c_now_shelves_room c_now_shelves_gap c_now_shelves_places c_now_shelves_picked a_now_shelves_lot a_now_shelves_pieces a_now_shelves_mark a_now_shelves_byDistance, rI cI a_now_shelves_pieces 48 c_now_shelves_pieces] H0)) (va_Qi (fun (r2 : Int32) (_ : Unit) => r2 = r9) (fun _ t => t.heap = H0) (fun q => H0.size ≤ q)) 0 0 (fun q => H0.size ≤ q) := by
  refine Met.ofW (cc := cX7_doBooksAddUp) (maxL := 3) (ret := (some .boolean)) (by decide) rfl ?_
  intro p e s m args below meth c s₁ B hml hv
  obtain ⟨rfl, hH, hP, hK, hB0, hE⟩ := hv
  subst hH
  have hx := B.exec
  have hb := B.bytes
  have hr := B.returns
  have hts := atoms_spec (ws := (wz yX7_doBooksAddUp cX7_doBooksAddUp 3 (some .boolean))) B.pre
  have hown : s.vm.findClass RX7 = some m.cls := findClass_of_methodNamed B.named
  have hlocks := B.notSynchronized
  have hAB : ∀ q : Nat, s.heap.size ≤ q → B0 ≤ q := fun q h => Nat.le_trans hB0 h
  have hA : ∀ q : Nat, s.heap.size ≤ q → s.heap.size ≤ q := fun _ h => h
  have hS : va_S (fun q => s.heap.size ≤ q) s.heap s.heap [] := va_S.rf
  have hBn := fun (H : Heap) (locs : List Loc) (h : va_S (fun q => s.heap.size ≤ q) s.heap H locs) => Nat.le_trans hB0 h.1
  have hEn := fun (H : Heap) (locs : List Loc) (h : va_S (fun q => s.heap.size ≤ q) s.heap H locs) => gE_now hE h hAB
  have hl := lv_entry ([.ref a0]) (n := 3) (Nat.le_of_ble_eq_true rfl)
  rw [lg_entry_eq]
  generalize (lg_sl ([.ref a0]) ++ List.replicate (3 - (lg_sl ([.ref a0])).length) Slot.unset).toArray = ls at hl ⊢
  have hl : lv_has ls 3 [(0, .ref a0)] := hl
  obtain ⟨H, hHe⟩ : ∃ H : Heap, H = s.heap := ⟨_, rfl⟩
  have hP : va_P D vwCl [oX7 a0 a_now a_past c_acts c_nextSlot a_plan a_picker a_rest a_packed, oX6 a_now c_now_today c_now_products c_now_itemCount a_now_items a_now_books a_now_terms a_now_shelves a_now_lots a_now_orders, rI cI a_now_books 6 c_now_books, oX5 a_now_shelves c_now_shelves_lanes c_now_shelves_positions c_now_shelves_room c_now_shelves_gap c_now_shelves_places c_now_shelves_picked a_now_shelves_lot a_now_shelves_pieces a_now_shelves_mark a_now_shelves_byDistance, rI cI a_now_shelves_pieces 48 c_now_shelves_pieces] H := by rw [hHe]; exact hP
  have hS : va_S (fun q => s.heap.size ≤ q) s.heap H [] := by rw [hHe]; exact hS
  refine W_heq hHe ?_
  unfold f_X7_doBooksAddUp at hf
  refine lv_aload_n hx hb dX7_doBooksAddUp_0 rfl (lv_at hl 0 rfl) ?_
  refine va_get (D := D) (ci := 6) (v := .ref a_now) (C := RX7) (T := TX7) (N := 8) hx hb hts (fun w h => mb (iX7 w h)) hown hK hP 0 rfl rfl 0 (by decide) (hts _ (mb tb_270)) (fun _ h9 => h9) rfl dX7_doBooksAddUp_1 ?_
  refine va_get (D := D) (ci := 5) (v := .ref a_now_books) (C := RX6) (T := TX6) (N := 9) hx hb hts (fun w h => mb (iX6 w h)) hown hK hP 1 rfl rfl 4 (by decide) (hts _ (mb tb_165)) (fun _ h9 => h9) rfl dX7_doBooksAddUp_4 ?_
  refine lv_iconst (v := 0) hx hb dX7_doBooksAddUp_7 (by decide) ?_
  obtain ⟨h1, hf⟩ := ob_d hf
  refine va_iald hx hb hK hP 2 0 rfl rfl h1 dX7_doBooksAddUp_8 ?_
  refine lv_aload_n hx hb dX7_doBooksAddUp_9 rfl (lv_at hl 0 rfl) ?_
  refine va_get (D := D) (ci := 6) (v := .ref a_now) (C := RX7) (T := TX7) (N := 8) hx hb hts (fun w h => mb (iX7 w h)) hown hK hP 0 rfl rfl 0 (by decide) (hts _ (mb tb_270)) (fun _ h9 => h9) rfl dX7_doBooksAddUp_10 ?_
  refine va_get (D := D) (ci := 5) (v := .ref a_now_books) (C := RX6) (T := TX6) (N := 9) hx hb hts (fun w h => mb (iX6 w h)) hown hK hP 1 rfl rfl 4 (by decide) (hts _ (mb tb_165)) (fun _ h9 => h9) rfl dX7_doBooksAddUp_13 ?_
  refine lv_iconst (v := 2) hx hb dX7_doBooksAddUp_16 (by decide) ?_
  obtain ⟨h2, hf⟩ := ob_d hf
  refine va_iald hx hb hK hP 2 0 rfl rfl h2 dX7_doBooksAddUp_17 ?_
  refine lv_iadd hx hb dX7_doBooksAddUp_18 ?_
  refine lv_aload_n hx hb dX7_doBooksAddUp_19 rfl (lv_at hl 0 rfl) ?_
  refine va_get (D := D) (ci := 6) (v := .ref a_now) (C := RX7) (T := TX7) (N := 8) hx hb hts (fun w h => mb (iX7 w h)) hown hK hP 0 rfl rfl 0 (by decide) (hts _ (mb tb_270)) (fun _ h9 => h9) rfl dX7_doBooksAddUp_20 ?_
  refine va_get (D := D) (ci := 5) (v := .ref a_now_books) (C := RX6) (T := TX6) (N := 9) hx hb hts (fun w h => mb (iX6 w h)) hown hK hP 1 rfl rfl 4 (by decide) (hts _ (mb tb_165)) (fun _ h9 => h9) rfl dX7_doBooksAddUp_23 ?_
  refine lv_iconst (v := 5) hx hb dX7_doBooksAddUp_26 (by decide) ?_
  obtain ⟨h3, hf⟩ := ob_d hf
  refine va_iald hx hb hK hP 2 0 rfl rfl h3 dX7_doBooksAddUp_27 ?_
  refine lv_iadd hx hb dX7_doBooksAddUp_28 ?_
  refine lv_istore_n (lv' := [(1, .int (((c_now_books (0 : Int32).toNatClampNeg) + (c_now_books (2 : Int32).toNatClampNeg)) + (c_now_books (5 : Int32).toNatClampNeg))), (0, .ref a0)]) hx hb dX7_doBooksAddUp_29 rfl hl (by decide) rfl (fun ls hl => ?_)
  refine lv_aload_n hx hb dX7_doBooksAddUp_30 rfl (lv_at hl 1 rfl) ?_
  refine va_get (D := D) (ci := 6) (v := .ref a_now) (C := RX7) (T := TX7) (N := 8) hx hb hts (fun w h => mb (iX7 w h)) hown hK hP 0 rfl rfl 0 (by decide) (hts _ (mb tb_270)) (fun _ h9 => h9) rfl dX7_doBooksAddUp_31 ?_
  refine va_get (D := D) (ci := 5) (v := .ref a_now_books) (C := RX6) (T := TX6) (N := 9) hx hb hts (fun w h => mb (iX6 w h)) hown hK hP 1 rfl rfl 4 (by decide) (hts _ (mb tb_165)) (fun _ h9 => h9) rfl dX7_doBooksAddUp_34 ?_
  refine lv_iconst (v := 1) hx hb dX7_doBooksAddUp_37 (by decide) ?_
  obtain ⟨h4, hf⟩ := ob_d hf
  refine va_iald hx hb hK hP 2 0 rfl rfl h4 dX7_doBooksAddUp_38 ?_
  refine lv_aload_n hx hb dX7_doBooksAddUp_39 rfl (lv_at hl 1 rfl) ?_
  refine va_get (D := D) (ci := 6) (v := .ref a_now) (C := RX7) (T := TX7) (N := 8) hx hb hts (fun w h => mb (iX7 w h)) hown hK hP 0 rfl rfl 0 (by decide) (hts _ (mb tb_270)) (fun _ h9 => h9) rfl dX7_doBooksAddUp_40 ?_
  refine va_get (D := D) (ci := 5) (v := .ref a_now_books) (C := RX6) (T := TX6) (N := 9) hx hb hts (fun w h => mb (iX6 w h)) hown hK hP 1 rfl rfl 4 (by decide) (hts _ (mb tb_165)) (fun _ h9 => h9) rfl dX7_doBooksAddUp_43 ?_
  refine lv_iconst (v := 3) hx hb dX7_doBooksAddUp_46 (by decide) ?_
  obtain ⟨h5, hf⟩ := ob_d hf
  refine va_iald hx hb hK hP 2 0 rfl rfl h5 dX7_doBooksAddUp_47 ?_
  refine lv_iadd hx hb dX7_doBooksAddUp_48 ?_
  refine lv_aload_n hx hb dX7_doBooksAddUp_49 rfl (lv_at hl 1 rfl) ?_
  refine va_get (D := D) (ci := 6) (v := .ref a_now) (C := RX7) (T := TX7) (N := 8) hx hb hts (fun w h => mb (iX7 w h)) hown hK hP 0 rfl rfl 0 (by decide) (hts _ (mb tb_270)) (fun _ h9 => h9) rfl dX7_doBooksAddUp_50 ?_
  refine va_get (D := D) (ci := 5) (v := .ref a_now_books) (C := RX6) (T := TX6) (N := 9) hx hb hts (fun w h => mb (iX6 w h)) hown hK hP 1 rfl rfl 4 (by decide) (hts _ (mb tb_165)) (fun _ h9 => h9) rfl dX7_doBooksAddUp_53 ?_
  refine lv_iconst (v := 4) hx hb dX7_doBooksAddUp_56 (by decide) ?_
  obtain ⟨h6, hf⟩ := ob_d hf
  refine va_iald hx hb hK hP 2 0 rfl rfl h6 dX7_doBooksAddUp_57 ?_
  refine lv_iadd hx hb dX7_doBooksAddUp_58 ?_
  refine lv_istore_n (lv' := [(2, .int (((c_now_books (1 : Int32).toNatClampNeg) + (c_now_books (3 : Int32).toNatClampNeg)) + (c_now_books (4 : Int32).toNatClampNeg))), (1, .int (((c_now_books (0 : Int32).toNatClampNeg) + (c_now_books (2 : Int32).toNatClampNeg)) + (c_now_books (5 : Int32).toNatClampNeg))), (0, .ref a0)]) hx hb dX7_doBooksAddUp_59 rfl hl (by decide) rfl (fun ls hl => ?_)
  refine lv_iload_n hx hb dX7_doBooksAddUp_60 rfl (lv_at hl 1 rfl) ?_
  refine lv_iload_n hx hb dX7_doBooksAddUp_61 rfl (lv_at hl 0 rfl) ?_
  refine lv_isub hx hb dX7_doBooksAddUp_62 ?_
  refine lv_aload_n hx hb dX7_doBooksAddUp_63 rfl (lv_at hl 2 rfl) ?_
  refine va_get (D := D) (ci := 6) (v := .ref a_now) (C := RX7) (T := TX7) (N := 8) hx hb hts (fun w h => mb (iX7 w h)) hown hK hP 0 rfl rfl 0 (by decide) (hts _ (mb tb_270)) (fun _ h9 => h9) rfl dX7_doBooksAddUp_64 ?_
  refine va_get (D := D) (ci := 5) (v := .ref a_now_shelves) (C := RX6) (T := TX6) (N := 9) hx hb hts (fun w h => mb (iX6 w h)) hown hK hP 1 rfl rfl 6 (by decide) (hts _ (mb tb_169)) (fun _ h9 => h9) rfl dX7_doBooksAddUp_67 ?_
  obtain ⟨r7, hc8, hf⟩ := ob1 hf
  refine ro_calli (r := r7) (va_runV (As := []) (rest := [.int ((((c_now_books (0 : Int32).toNatClampNeg) + (c_now_books (2 : Int32).toNatClampNeg)) + (c_now_books (5 : Int32).toNatClampNeg)) - (((c_now_books (1 : Int32).toNatClampNeg) + (c_now_books (3 : Int32).toNatClampNeg)) + (c_now_books (4 : Int32).toNatClampNeg)))]) ⟨hx, hb, hml, hown, hts⟩ (k_X5_piecesOnHand l hl0 D cI cJ cZ cS B0 H a_now_shelves a_now_shelves_lot a_now_shelves_pieces a_now_shelves_mark a_now_shelves_byDistance c_now_shelves_lanes c_now_shelves_positions c_now_shelves_room c_now_shelves_gap c_now_shelves_places c_now_shelves_picked c_now_shelves_pieces r7 hc8) (cwV 0 hts (gV tb_455 tb_456 tb_457 tb_3 tb_458) rfl rfl rfl (by decide +kernel) ⟨Nat.le_of_ble_eq_true rfl, Nat.le_of_ble_eq_true rfl⟩) ⟨rp_blind, va_recv hK hP (ci := 4) (q0 := 3) rfl rfl, rp_pre (hP.sub [3, 4] rfl) hK (hBn _ _ hS) (hEn _ _ hS)⟩ rfl rfl hl.1 rfl (lv_room (Nat.le_of_ble_eq_true rfl)) dX7_doBooksAddUp_70 ⟨Nat.le_of_ble_eq_true rfl, Nat.le_of_ble_eq_true rfl⟩) ?_
  refine lv_icmp_ne (tgt := 80) hx hb dX7_doBooksAddUp_73 (by decide) (fun h9 => ?_) (fun h9 => ?_)
  · have hf := ineg h9 hf
    refine lv_iconst (v := 0) hx hb dX7_doBooksAddUp_80 (by decide) ?_
    cases hf
    exact W.zret hx hb hr rfl (fun t ht hW => ⟨⟨_, (), rfl, rfl, (ht.trans hHe)⟩, hS.F ht⟩) hS.2.2 dX7_doBooksAddUp_81
  · have hf := ipos h9 hf
    refine lv_iconst (v := 1) hx hb dX7_doBooksAddUp_76 (by decide) ?_
    refine lv_goto (tgt := 81) hx hb dX7_doBooksAddUp_77 (by decide) ?_
    cases hf
    exact W.zret hx hb hr rfl (fun t ht hW => ⟨⟨_, (), rfl, rfl, (ht.trans hHe)⟩, hS.F ht⟩) hS.2.2 dX7_doBooksAddUp_81
def f_X7_errors_L4_J31 (n1 : Int32) (n2 : Int32) (c_now_products : Int32) (c_now_books : Nat → Int32) (c_now_terms : Nat → Int32) (c_now_shelves_places : Int32) (c_now_shelves_picked : Int64) (c_now_shelves_lot : Nat → Int32) (c_now_shelves_pieces : Nat → Int32) (c_now_shelves_mark : Nat → Int32) (c_now_shelves_byDistance : Nat → Int32) (c_now_lots_count : Int32) (c_now_lots_product : Nat → Int32) (c_now_lots_last : Nat → Int32) (c_now_lots_state : Nat → Int32) (c_now_lots_byLast : Nat → Int32) (c_now_orders_count : Int32) (c_now_orders_gifts : Int32) (c_now_orders_product : Nat → Int32) (c_now_orders_open : Nat → Int32) (c_now_orders_due : Nat → Int32) (c_now_orders_life : Nat → Int32) (c_now_orders_byDue : Nat → Int32) (c_now_orders_had : Nat → Int32) (c_now_orders_stamps : Nat → Int32) (c_plan_terms : Nat → Int32) (c_plan_low : Nat → Int32) (c_plan_high : Nat → Int32) (c_plan_bottom : Nat → Int64) (c_plan_cost : Nat → Int64) (c_plan_act : Nat → Int32) (c_rest : Nat → Int32) : Option ((Int32 × Int32 × Int64 × (Nat → Int32) × (Nat → Int32) × (Nat → Int32) × Int32 × (Nat → Int32) × (Nat → Int32) × (Nat → Int32) × (Nat → Int32)) ⊕ (Int32 × Int64 × (Nat → Int32) × (Nat → Int32) × (Nat → Int32) × Int32 × (Nat → Int32) × (Nat → Int32) × (Nat → Int32) × (Nat → Int32))) :=
  some (.inl (n1, n2 + 1, c_now_shelves_picked, c_now_shelves_lot, c_now_shelves_pieces, c_now_shelves_mark, c_now_orders_gifts, c_now_orders_open, c_now_orders_had, c_now_orders_stamps, c_rest))
def f_X7_errors_L4 (c_now_products : Int32) (c_now_books : Nat → Int32) (c_now_terms : Nat → Int32) (c_now_shelves_places : Int32) (c_now_shelves_byDistance : Nat → Int32) (c_now_lots_count : Int32) (c_now_lots_product : Nat → Int32) (c_now_lots_last : Nat → Int32) (c_now_lots_state : Nat → Int32) (c_now_lots_byLast : Nat → Int32) (c_now_orders_count : Int32) (c_now_orders_product : Nat → Int32) (c_now_orders_due : Nat → Int32) (c_now_orders_life : Nat → Int32) (c_now_orders_byDue : Nat → Int32) (c_plan_terms : Nat → Int32) (c_plan_low : Nat → Int32) (c_plan_high : Nat → Int32) (c_plan_bottom : Nat → Int64) (c_plan_cost : Nat → Int64) (c_plan_act : Nat → Int32) (n1 : Int32) (n2 : Int32) (c_now_shelves_picked : Int64) (c_now_shelves_lot : Nat → Int32) (c_now_shelves_pieces : Nat → Int32) (c_now_shelves_mark : Nat → Int32) (c_now_orders_gifts : Int32) (c_now_orders_open : Nat → Int32) (c_now_orders_had : Nat → Int32) (c_now_orders_stamps : Nat → Int32) (c_rest : Nat → Int32) : Option ((Int32 × Int32 × Int64 × (Nat → Int32) × (Nat → Int32) × (Nat → Int32) × Int32 × (Nat → Int32) × (Nat → Int32) × (Nat → Int32) × (Nat → Int32)) ⊕ (Int32 × Int64 × (Nat → Int32) × (Nat → Int32) × (Nat → Int32) × Int32 × (Nat → Int32) × (Nat → Int32) × (Nat → Int32) × (Nat → Int32))) :=
  (if c_now_products ≤ n2 then some (.inr (n1, c_now_shelves_picked, c_now_shelves_lot, c_now_shelves_pieces, c_now_shelves_mark, c_now_orders_gifts, c_now_orders_open, c_now_orders_had, c_now_orders_stamps, c_rest))
  else bnd10 (f_X7_leftOpen n2 c_now_shelves_places c_now_shelves_picked c_now_shelves_lot c_now_shelves_pieces c_now_shelves_mark c_now_shelves_byDistance c_now_lots_count c_now_lots_product c_now_lots_last c_now_lots_state c_now_lots_byLast c_now_orders_count c_now_orders_gifts c_now_orders_product c_now_orders_open c_now_orders_due c_now_orders_life c_now_orders_byDue c_now_orders_had c_now_orders_stamps c_rest) (fun r2 o4 o5 o6 o7 o8 o9 o10 o11 o12 =>
  (bnd2 (f_X7_greatestLack n2 c_now_shelves_places o5 o6 c_now_lots_count c_now_lots_product c_now_lots_last c_now_lots_state c_now_orders_count c_now_orders_product o9 c_now_orders_due c_now_orders_life o12) (fun r13 o15 =>
  ((if r2 = r13 then f_X7_errors_L4_J31 n1 n2 c_now_products c_now_books c_now_terms c_now_shelves_places o4 o5 o6 o7 c_now_shelves_byDistance c_now_lots_count c_now_lots_product c_now_lots_last c_now_lots_state c_now_lots_byLast c_now_orders_count o8 c_now_orders_product o9 c_now_orders_due c_now_orders_life c_now_orders_byDue o10 o11 c_plan_terms c_plan_low c_plan_high c_plan_bottom c_plan_cost c_plan_act o15
  else f_X7_errors_L4_J31 (n1 + 1) n2 c_now_products c_now_books c_now_terms c_now_shelves_places o4 o5 o6 o7 c_now_shelves_byDistance c_now_lots_count c_now_lots_product c_now_lots_last c_now_lots_state c_now_lots_byLast c_now_orders_count o8 c_now_orders_product o9 c_now_orders_due c_now_orders_life c_now_orders_byDue o10 o11 c_plan_terms c_plan_low c_plan_high c_plan_bottom c_plan_cost c_plan_act o15))))))
def f_X7_errors_J47 (n1 : Int32) (c_now_products : Int32) (c_now_books : Nat → Int32) (c_now_terms : Nat → Int32) (c_now_shelves_places : Int32) (c_now_shelves_picked : Int64) (c_now_shelves_lot : Nat → Int32) (c_now_shelves_pieces : Nat → Int32) (c_now_shelves_mark : Nat → Int32) (c_now_shelves_byDistance : Nat → Int32) (c_now_lots_count : Int32) (c_now_lots_product : Nat → Int32) (c_now_lots_last : Nat → Int32) (c_now_lots_state : Nat → Int32) (c_now_lots_byLast : Nat → Int32) (c_now_orders_count : Int32) (c_now_orders_gifts : Int32) (c_now_orders_product : Nat → Int32) (c_now_orders_open : Nat → Int32) (c_now_orders_due : Nat → Int32) (c_now_orders_life : Nat → Int32) (c_now_orders_byDue : Nat → Int32) (c_now_orders_had : Nat → Int32) (c_now_orders_stamps : Nat → Int32) (c_plan_terms : Nat → Int32) (c_plan_low : Nat → Int32) (c_plan_high : Nat → Int32) (c_plan_bottom : Nat → Int64) (c_plan_cost : Nat → Int64) (c_plan_act : Nat → Int32) (c_rest : Nat → Int32) : Option (Int32 × Int64 × (Nat → Int32) × (Nat → Int32) × (Nat → Int32) × Int32 × (Nat → Int32) × (Nat → Int32) × (Nat → Int32) × (Nat → Int32) × (Nat → Int32) × (Nat → Int32) × (Nat → Int64) × (Nat → Int64) × (Nat → Int32) × (Nat → Int32)) :=
  bnd6 (f_X4_solve c_plan_terms c_plan_low c_plan_high c_plan_bottom c_plan_cost c_plan_act c_now_terms) (fun o33 o34 o35 o36 o37 o38 =>
  (bnd1 (f_X4_strayActs o33 o34 o35 o38) (fun r39 =>
  (some (n1 + r39, c_now_shelves_picked, c_now_shelves_lot, c_now_shelves_pieces, c_now_shelves_mark, c_now_orders_gifts, c_now_orders_open, c_now_orders_had, c_now_orders_stamps, o33, o34, o35, o36, o37, o38, c_rest)))))
def f_X7_errors (c_now_products : Int32) (c_now_books : Nat → Int32) (c_now_terms : Nat → Int32) (c_now_shelves_places : Int32) (c_now_shelves_picked : Int64) (c_now_shelves_lot : Nat → Int32) (c_now_shelves_pieces : Nat → Int32) (c_now_shelves_mark : Nat → Int32) (c_now_shelves_byDistance : Nat → Int32) (c_now_lots_count : Int32) (c_now_lots_product : Nat → Int32) (c_now_lots_last : Nat → Int32) (c_now_lots_state : Nat → Int32) (c_now_lots_byLast : Nat → Int32) (c_now_orders_count : Int32) (c_now_orders_gifts : Int32) (c_now_orders_product : Nat → Int32) (c_now_orders_open : Nat → Int32) (c_now_orders_due : Nat → Int32) (c_now_orders_life : Nat → Int32) (c_now_orders_byDue : Nat → Int32) (c_now_orders_had : Nat → Int32) (c_now_orders_stamps : Nat → Int32) (c_plan_terms : Nat → Int32) (c_plan_low : Nat → Int32) (c_plan_high : Nat → Int32) (c_plan_bottom : Nat → Int64) (c_plan_cost : Nat → Int64) (c_plan_act : Nat → Int32) (c_rest : Nat → Int32) : Option (Int32 × Int64 × (Nat → Int32) × (Nat → Int32) × (Nat → Int32) × Int32 × (Nat → Int32) × (Nat → Int32) × (Nat → Int32) × (Nat → Int32) × (Nat → Int32) × (Nat → Int32) × (Nat → Int64) × (Nat → Int64) × (Nat → Int32) × (Nat → Int32)) :=
  (bnd10 (loop (fun z => f_X7_errors_L4 c_now_products c_now_books c_now_terms c_now_shelves_places c_now_shelves_byDistance c_now_lots_count c_now_lots_product c_now_lots_last c_now_lots_state c_now_lots_byLast c_now_orders_count c_now_orders_product c_now_orders_due c_now_orders_life c_now_orders_byDue c_plan_terms c_plan_low c_plan_high c_plan_bottom c_plan_cost c_plan_act z.1 z.2.1 z.2.2.1 z.2.2.2.1 z.2.2.2.2.1 z.2.2.2.2.2.1 z.2.2.2.2.2.2.1 z.2.2.2.2.2.2.2.1 z.2.2.2.2.2.2.2.2.1 z.2.2.2.2.2.2.2.2.2.1 z.2.2.2.2.2.2.2.2.2.2) fu (0, 0, c_now_shelves_picked, c_now_shelves_lot, c_now_shelves_pieces, c_now_shelves_mark, c_now_orders_gifts, c_now_orders_open, c_now_orders_had, c_now_orders_stamps, c_rest)) fun m18 c19 c20 c21 c22 c23 c24 c25 c26 c27 =>
  bnd1 (f_X7_doBooksAddUp c_now_books c_now_shelves_places c21) (fun r28 =>
  ((if r28 = 0 then f_X7_errors_J47 (m18 + 1) c_now_products c_now_books c_now_terms c_now_shelves_places c19 c20 c21 c22 c_now_shelves_byDistance c_now_lots_count c_now_lots_product c_now_lots_last c_now_lots_state c_now_lots_byLast c_now_orders_count c23 c_now_orders_product c24 c_now_orders_due c_now_orders_life c_now_orders_byDue c25 c26 c_plan_terms c_plan_low c_plan_high c_plan_bottom c_plan_cost c_plan_act c27
  else f_X7_errors_J47 m18 c_now_products c_now_books c_now_terms c_now_shelves_places c19 c20 c21 c22 c_now_shelves_byDistance c_now_lots_count c_now_lots_product c_now_lots_last c_now_lots_state c_now_lots_byLast c_now_orders_count c23 c_now_orders_product c24 c_now_orders_due c_now_orders_life c_now_orders_byDue c25 c26 c_plan_terms c_plan_low c_plan_high c_plan_bottom c_plan_cost c_plan_act c27))))
set_option maxHeartbeats 4000000 in
set_option maxRecDepth 100000 in
theorem k_X7_errors (l : Launch) (hl0 : l.stackTraces = false) (D : va_G) (cI cJ cZ cS : ClassId) (B0 : Nat) (sz : Nat) (a0 a_now a_past a_plan a_picker a_rest a_packed a_now_items a_now_books a_now_terms a_now_shelves a_now_lots a_now_orders a_now_shelves_lot a_now_shelves_pieces a_now_shelves_mark a_now_shelves_byDistance a_now_lots_product a_now_lots_last a_now_lots_cost a_now_lots_state a_now_lots_byLast a_now_orders_customer a_now_orders_product a_now_orders_open a_now_orders_due a_now_orders_life a_now_orders_byDue a_now_orders_had a_now_orders_stamps a_plan_terms a_plan_low a_plan_high a_plan_bottom a_plan_cost a_plan_act : Nat) (c_acts : Int32) (c_nextSlot : Int32) (c_now_today : Int32) (c_now_products : Int32) (c_now_itemCount : Int32) (c_now_books : Nat → Int32) (c_now_terms : Nat → Int32) (c_now_shelves_lanes : Int32) (c_now_shelves_positions : Int32) (c_now_shelves_room : Int32) (c_now_shelves_gap : Int32) (c_now_shelves_places : Int32) (c_now_shelves_picked : Int64) (c_now_shelves_lot : Nat → Int32) (c_now_shelves_pieces : Nat → Int32) (c_now_shelves_mark : Nat → Int32) (c_now_shelves_byDistance : Nat → Int32) (c_now_lots_count : Int32) (c_now_lots_product : Nat → Int32) (c_now_lots_last : Nat → Int32) (c_now_lots_state : Nat → Int32) (c_now_lots_byLast : Nat → Int32) (c_now_orders_count : Int32) (c_now_orders_gifts : Int32) (c_now_orders_product : Nat → Int32) (c_now_orders_open : Nat → Int32) (c_now_orders_due : Nat → Int32) (c_now_orders_life : Nat → Int32) (c_now_orders_byDue : Nat → Int32) (c_now_orders_had : Nat → Int32) (c_now_orders_stamps : Nat → Int32) (c_plan_terms : Nat → Int32) (c_plan_low : Nat → Int32) (c_plan_high : Nat → Int32) (c_plan_bottom : Nat → Int64) (c_plan_cost : Nat → Int64) (c_plan_act : Nat → Int32) (c_rest : Nat → Int32) (r9 : Int32) (oc_now_shelves_picked : Int64) (oc_now_shelves_lot : Nat → Int32) (oc_now_shelves_pieces : Nat → Int32) (oc_now_shelves_mark : Nat → Int32) (oc_now_orders_gifts : Int32) (oc_now_orders_open : Nat → Int32) (oc_now_orders_had : Nat → Int32) (oc_now_orders_stamps : Nat → Int32) (oc_plan_terms : Nat → Int32) (oc_plan_low : Nat → Int32) (oc_plan_high : Nat → Int32) (oc_plan_bottom : Nat → Int64) (oc_plan_cost : Nat → Int64) (oc_plan_act : Nat → Int32) (oc_rest : Nat → Int32)  (hf : f_X7_errors c_now_products c_now_books c_now_terms c_now_shelves_places c_now_shelves_picked c_now_shelves_lot c_now_shelves_pieces c_now_shelves_mark c_now_shelves_byDistance c_now_lots_count c_now_lots_product c_now_lots_last c_now_lots_state c_now_lots_byLast c_now_orders_count c_now_orders_gifts c_now_orders_product c_now_orders_open c_now_orders_due c_now_orders_life c_now_orders_byDue c_now_orders_had c_now_orders_stamps c_plan_terms c_plan_low c_plan_high c_plan_bottom c_plan_cost c_plan_act c_rest = some (r9, oc_now_shelves_picked, oc_now_shelves_lot, oc_now_shelves_pieces, oc_now_shelves_mark, oc_now_orders_gifts, oc_now_orders_open, oc_now_orders_had, oc_now_orders_stamps, oc_plan_terms, oc_plan_low, oc_plan_high, oc_plan_bottom, oc_plan_cost, oc_plan_act, oc_rest)) : Met l yX7_errors (wz yX7_errors cX7_errors 3 (some .int)) ({ frames := 5, cells := 0, slots := 0, locals := 148 }) (va_Pc [.ref a0] (wp D cI cJ cZ cS B0 [oX7 a0 a_now a_past c_acts c_nextSlot a_plan a_picker a_rest a_packed, oX6 a_now c_now_today c_now_products c_now_itemCount a_now_items a_now_books a_now_terms a_now_shelves a_now_lots a_now_orders, rI cI a_now_books 6 c_now_books, rI cI a_now_terms 10 c_now_terms, oX5 a_now_shelves c_now_shelves_lanes c_now_shelves_positions c_now_shelves_room c_now_shelves_gap c_now_shelves_places c_now_shelves_picked a_now_shelves_lot a_now_shelves_pieces a_now_shelves_mark a_now_shelves_byDistance, rI cI a_now_shelves_lot 48 c_now_shelves_lot, rI cI a_now_shelves_pieces 48 c_now_shelves_pieces, rI cI a_now_shelves_mark 48 c_now_shelves_mark, rI cI a_now_shelves_byDistance 48 c_now_shelves_byDistance, oX1 a_now_lots c_now_lots_count a_now_lots_product a_now_lots_last a_now_lots_cost a_now_lots_state a_now_lots_byLast, rI cI a_now_lots_product 24 c_now_lots_product, rI cI a_now_lots_last 24 c_now_lots_last, rI cI a_now_lots_state 24 c_now_lots_state, rI cI a_now_lots_byLast 24 c_now_lots_byLast, oX2 a_now_orders c_now_orders_count c_now_orders_gifts a_now_orders_customer a_now_orders_product a_now_orders_open a_now_orders_due a_now_orders_life a_now_orders_byDue a_now_orders_had a_now_orders_stamps, rI cI a_now_orders_product 40 c_now_orders_product, rI cI a_now_orders_open 40 c_now_orders_open, rI cI a_now_orders_due 40 c_now_orders_due, rI cI a_now_orders_life 40 c_now_orders_life, rI cI a_now_orders_byDue 40 c_now_orders_byDue, rI cI a_now_orders_had 960 c_now_orders_had, rI cI a_now_orders_stamps 960 c_now_orders_stamps, oX4 a_plan a_plan_terms a_plan_low a_plan_high a_plan_bottom a_plan_cost a_plan_act, rI cI a_plan_terms 10 c_plan_terms, rI cI a_plan_low 6 c_plan_low, rI cI a_plan_high 6 c_plan_high, rJ cJ a_plan_bottom 6 c_plan_bottom, rJ cJ a_plan_cost 366 c_plan_cost, rI cI a_plan_act 366 c_plan_act, rI cI a_rest 24 c_rest] sz)) (va_Qi (fun (r2 : Int32) (_ : Unit) => r2 = r9) (fun _ t => va_P D vwCl [oX7 a0 a_now a_past c_acts c_nextSlot a_plan a_picker a_rest a_packed, oX6 a_now c_now_today c_now_products c_now_itemCount a_now_items a_now_books a_now_terms a_now_shelves a_now_lots a_now_orders, rI cI a_now_books 6 c_now_books, rI cI a_now_terms 10 c_now_terms, oX5 a_now_shelves c_now_shelves_lanes c_now_shelves_positions c_now_shelves_room c_now_shelves_gap c_now_shelves_places oc_now_shelves_picked a_now_shelves_lot a_now_shelves_pieces a_now_shelves_mark a_now_shelves_byDistance, rI cI a_now_shelves_lot 48 oc_now_shelves_lot, rI cI a_now_shelves_pieces 48 oc_now_shelves_pieces, rI cI a_now_shelves_mark 48 oc_now_shelves_mark, rI cI a_now_shelves_byDistance 48 c_now_shelves_byDistance, oX1 a_now_lots c_now_lots_count a_now_lots_product a_now_lots_last a_now_lots_cost a_now_lots_state a_now_lots_byLast, rI cI a_now_lots_product 24 c_now_lots_product, rI cI a_now_lots_last 24 c_now_lots_last, rI cI a_now_lots_state 24 c_now_lots_state, rI cI a_now_lots_byLast 24 c_now_lots_byLast, oX2 a_now_orders c_now_orders_count oc_now_orders_gifts a_now_orders_customer a_now_orders_product a_now_orders_open a_now_orders_due a_now_orders_life a_now_orders_byDue a_now_orders_had a_now_orders_stamps, rI cI a_now_orders_product 40 c_now_orders_product, rI cI a_now_orders_open 40 oc_now_orders_open, rI cI a_now_orders_due 40 c_now_orders_due, rI cI a_now_orders_life 40 c_now_orders_life, rI cI a_now_orders_byDue 40 c_now_orders_byDue, rI cI a_now_orders_had 960 oc_now_orders_had, rI cI a_now_orders_stamps 960 oc_now_orders_stamps, oX4 a_plan a_plan_terms a_plan_low a_plan_high a_plan_bottom a_plan_cost a_plan_act, rI cI a_plan_terms 10 oc_plan_terms, rI cI a_plan_low 6 oc_plan_low, rI cI a_plan_high 6 oc_plan_high, rJ cJ a_plan_bottom 6 oc_plan_bottom, rJ cJ a_plan_cost 366 oc_plan_cost, rI cI a_plan_act 366 oc_plan_act, rI cI a_rest 24 oc_rest] t.heap) (va_A [oX7 a0 a_now a_past c_acts c_nextSlot a_plan a_picker a_rest a_packed, oX6 a_now c_now_today c_now_products c_now_itemCount a_now_items a_now_books a_now_terms a_now_shelves a_now_lots a_now_orders, rI cI a_now_books 6 c_now_books, rI cI a_now_terms 10 c_now_terms, oX5 a_now_shelves c_now_shelves_lanes c_now_shelves_positions c_now_shelves_room c_now_shelves_gap c_now_shelves_places c_now_shelves_picked a_now_shelves_lot a_now_shelves_pieces a_now_shelves_mark a_now_shelves_byDistance, rI cI a_now_shelves_lot 48 c_now_shelves_lot, rI cI a_now_shelves_pieces 48 c_now_shelves_pieces, rI cI a_now_shelves_mark 48 c_now_shelves_mark, rI cI a_now_shelves_byDistance 48 c_now_shelves_byDistance, oX1 a_now_lots c_now_lots_count a_now_lots_product a_now_lots_last a_now_lots_cost a_now_lots_state a_now_lots_byLast, rI cI a_now_lots_product 24 c_now_lots_product, rI cI a_now_lots_last 24 c_now_lots_last, rI cI a_now_lots_state 24 c_now_lots_state, rI cI a_now_lots_byLast 24 c_now_lots_byLast, oX2 a_now_orders c_now_orders_count c_now_orders_gifts a_now_orders_customer a_now_orders_product a_now_orders_open a_now_orders_due a_now_orders_life a_now_orders_byDue a_now_orders_had a_now_orders_stamps, rI cI a_now_orders_product 40 c_now_orders_product, rI cI a_now_orders_open 40 c_now_orders_open, rI cI a_now_orders_due 40 c_now_orders_due, rI cI a_now_orders_life 40 c_now_orders_life, rI cI a_now_orders_byDue 40 c_now_orders_byDue, rI cI a_now_orders_had 960 c_now_orders_had, rI cI a_now_orders_stamps 960 c_now_orders_stamps, oX4 a_plan a_plan_terms a_plan_low a_plan_high a_plan_bottom a_plan_cost a_plan_act, rI cI a_plan_terms 10 c_plan_terms, rI cI a_plan_low 6 c_plan_low, rI cI a_plan_high 6 c_plan_high, rJ cJ a_plan_bottom 6 c_plan_bottom, rJ cJ a_plan_cost 366 c_plan_cost, rI cI a_plan_act 366 c_plan_act, rI cI a_rest 24 c_rest] sz)) 0 0 (va_A [oX7 a0 a_now a_past c_acts c_nextSlot a_plan a_picker a_rest a_packed, oX6 a_now c_now_today c_now_products c_now_itemCount a_now_items a_now_books a_now_terms a_now_shelves a_now_lots a_now_orders, rI cI a_now_books 6 c_now_books, rI cI a_now_terms 10 c_now_terms, oX5 a_now_shelves c_now_shelves_lanes c_now_shelves_positions c_now_shelves_room c_now_shelves_gap c_now_shelves_places c_now_shelves_picked a_now_shelves_lot a_now_shelves_pieces a_now_shelves_mark a_now_shelves_byDistance, rI cI a_now_shelves_lot 48 c_now_shelves_lot, rI cI a_now_shelves_pieces 48 c_now_shelves_pieces, rI cI a_now_shelves_mark 48 c_now_shelves_mark, rI cI a_now_shelves_byDistance 48 c_now_shelves_byDistance, oX1 a_now_lots c_now_lots_count a_now_lots_product a_now_lots_last a_now_lots_cost a_now_lots_state a_now_lots_byLast, rI cI a_now_lots_product 24 c_now_lots_product, rI cI a_now_lots_last 24 c_now_lots_last, rI cI a_now_lots_state 24 c_now_lots_state, rI cI a_now_lots_byLast 24 c_now_lots_byLast, oX2 a_now_orders c_now_orders_count c_now_orders_gifts a_now_orders_customer a_now_orders_product a_now_orders_open a_now_orders_due a_now_orders_life a_now_orders_byDue a_now_orders_had a_now_orders_stamps, rI cI a_now_orders_product 40 c_now_orders_product, rI cI a_now_orders_open 40 c_now_orders_open, rI cI a_now_orders_due 40 c_now_orders_due, rI cI a_now_orders_life 40 c_now_orders_life, rI cI a_now_orders_byDue 40 c_now_orders_byDue, rI cI a_now_orders_had 960 c_now_orders_had, rI cI a_now_orders_stamps 960 c_now_orders_stamps, oX4 a_plan a_plan_terms a_plan_low a_plan_high a_plan_bottom a_plan_cost a_plan_act, rI cI a_plan_terms 10 c_plan_terms, rI cI a_plan_low 6 c_plan_low, rI cI a_plan_high 6 c_plan_high, rJ cJ a_plan_bottom 6 c_plan_bottom, rJ cJ a_plan_cost 366 c_plan_cost, rI cI a_plan_act 366 c_plan_act, rI cI a_rest 24 c_rest] sz) := by
  refine Met.ofW (cc := cX7_errors) (maxL := 3) (ret := (some .int)) (by decide) rfl ?_
  intro p e s m args below meth c s₁ B hml hv
  obtain ⟨rfl, hsz, hP, hK, hD0, hB0, hE⟩ := hv
  subst hsz
  have hx := B.exec
  have hb := B.bytes
  have hr := B.returns
  have hts := atoms_spec (ws := (wz yX7_errors cX7_errors 3 (some .int))) B.pre
  have hown : s.vm.findClass RX7 = some m.cls := findClass_of_methodNamed B.named
  have hlocks := B.notSynchronized
  have hD := hD0.self (sz := s.heap.size)
  have hAB : ∀ q : Nat, va_A [oX7 a0 a_now a_past c_acts c_nextSlot a_plan a_picker a_rest a_packed, oX6 a_now c_now_today c_now_products c_now_itemCount a_now_items a_now_books a_now_terms a_now_shelves a_now_lots a_now_orders, rI cI a_now_books 6 c_now_books, rI cI a_now_terms 10 c_now_terms, oX5 a_now_shelves c_now_shelves_lanes c_now_shelves_positions c_now_shelves_room c_now_shelves_gap c_now_shelves_places c_now_shelves_picked a_now_shelves_lot a_now_shelves_pieces a_now_shelves_mark a_now_shelves_byDistance, rI cI a_now_shelves_lot 48 c_now_shelves_lot, rI cI a_now_shelves_pieces 48 c_now_shelves_pieces, rI cI a_now_shelves_mark 48 c_now_shelves_mark, rI cI a_now_shelves_byDistance 48 c_now_shelves_byDistance, oX1 a_now_lots c_now_lots_count a_now_lots_product a_now_lots_last a_now_lots_cost a_now_lots_state a_now_lots_byLast, rI cI a_now_lots_product 24 c_now_lots_product, rI cI a_now_lots_last 24 c_now_lots_last, rI cI a_now_lots_state 24 c_now_lots_state, rI cI a_now_lots_byLast 24 c_now_lots_byLast, oX2 a_now_orders c_now_orders_count c_now_orders_gifts a_now_orders_customer a_now_orders_product a_now_orders_open a_now_orders_due a_now_orders_life a_now_orders_byDue a_now_orders_had a_now_orders_stamps, rI cI a_now_orders_product 40 c_now_orders_product, rI cI a_now_orders_open 40 c_now_orders_open, rI cI a_now_orders_due 40 c_now_orders_due, rI cI a_now_orders_life 40 c_now_orders_life, rI cI a_now_orders_byDue 40 c_now_orders_byDue, rI cI a_now_orders_had 960 c_now_orders_had, rI cI a_now_orders_stamps 960 c_now_orders_stamps, oX4 a_plan a_plan_terms a_plan_low a_plan_high a_plan_bottom a_plan_cost a_plan_act, rI cI a_plan_terms 10 c_plan_terms, rI cI a_plan_low 6 c_plan_low, rI cI a_plan_high 6 c_plan_high, rJ cJ a_plan_bottom 6 c_plan_bottom, rJ cJ a_plan_cost 366 c_plan_cost, rI cI a_plan_act 366 c_plan_act, rI cI a_rest 24 c_rest] s.heap.size q → B0 ≤ q := va_A_B hD0 hB0
  generalize hAe : va_A [oX7 a0 a_now a_past c_acts c_nextSlot a_plan a_picker a_rest a_packed, oX6 a_now c_now_today c_now_products c_now_itemCount a_now_items a_now_books a_now_terms a_now_shelves a_now_lots a_now_orders, rI cI a_now_books 6 c_now_books, rI cI a_now_terms 10 c_now_terms, oX5 a_now_shelves c_now_shelves_lanes c_now_shelves_positions c_now_shelves_room c_now_shelves_gap c_now_shelves_places c_now_shelves_picked a_now_shelves_lot a_now_shelves_pieces a_now_shelves_mark a_now_shelves_byDistance, rI cI a_now_shelves_lot 48 c_now_shelves_lot, rI cI a_now_shelves_pieces 48 c_now_shelves_pieces, rI cI a_now_shelves_mark 48 c_now_shelves_mark, rI cI a_now_shelves_byDistance 48 c_now_shelves_byDistance, oX1 a_now_lots c_now_lots_count a_now_lots_product a_now_lots_last a_now_lots_cost a_now_lots_state a_now_lots_byLast, rI cI a_now_lots_product 24 c_now_lots_product, rI cI a_now_lots_last 24 c_now_lots_last, rI cI a_now_lots_state 24 c_now_lots_state, rI cI a_now_lots_byLast 24 c_now_lots_byLast, oX2 a_now_orders c_now_orders_count c_now_orders_gifts a_now_orders_customer a_now_orders_product a_now_orders_open a_now_orders_due a_now_orders_life a_now_orders_byDue a_now_orders_had a_now_orders_stamps, rI cI a_now_orders_product 40 c_now_orders_product, rI cI a_now_orders_open 40 c_now_orders_open, rI cI a_now_orders_due 40 c_now_orders_due, rI cI a_now_orders_life 40 c_now_orders_life, rI cI a_now_orders_byDue 40 c_now_orders_byDue, rI cI a_now_orders_had 960 c_now_orders_had, rI cI a_now_orders_stamps 960 c_now_orders_stamps, oX4 a_plan a_plan_terms a_plan_low a_plan_high a_plan_bottom a_plan_cost a_plan_act, rI cI a_plan_terms 10 c_plan_terms, rI cI a_plan_low 6 c_plan_low, rI cI a_plan_high 6 c_plan_high, rJ cJ a_plan_bottom 6 c_plan_bottom, rJ cJ a_plan_cost 366 c_plan_cost, rI cI a_plan_act 366 c_plan_act, rI cI a_rest 24 c_rest] s.heap.size = A at hD hAB ⊢
  have hA : ∀ q : Nat, s.heap.size ≤ q → A q := fun q h => by rw [← hAe]; exact Or.inr h
  have hFa := hA
  have hS : va_S A s.heap s.heap [] := va_S.rf
  have hBn := fun (H : Heap) (locs : List Loc) (h : va_S A s.heap H locs) => Nat.le_trans hB0 h.1
  have hEn := fun (H : Heap) (locs : List Loc) (h : va_S A s.heap H locs) => gE_now hE h hAB
  have hl := lv_entry ([.ref a0]) (n := 3) (Nat.le_of_ble_eq_true rfl)
  rw [lg_entry_eq]
  generalize (lg_sl ([.ref a0]) ++ List.replicate (3 - (lg_sl ([.ref a0])).length) Slot.unset).toArray = ls at hl ⊢
  have hl : lv_has ls 3 [(0, .ref a0)] := hl
  obtain ⟨H, hHe⟩ : ∃ H : Heap, H = s.heap := ⟨_, rfl⟩
  have hP : va_P D vwCl [oX7 a0 a_now a_past c_acts c_nextSlot a_plan a_picker a_rest a_packed, oX6 a_now c_now_today c_now_products c_now_itemCount a_now_items a_now_books a_now_terms a_now_shelves a_now_lots a_now_orders, rI cI a_now_books 6 c_now_books, rI cI a_now_terms 10 c_now_terms, oX5 a_now_shelves c_now_shelves_lanes c_now_shelves_positions c_now_shelves_room c_now_shelves_gap c_now_shelves_places c_now_shelves_picked a_now_shelves_lot a_now_shelves_pieces a_now_shelves_mark a_now_shelves_byDistance, rI cI a_now_shelves_lot 48 c_now_shelves_lot, rI cI a_now_shelves_pieces 48 c_now_shelves_pieces, rI cI a_now_shelves_mark 48 c_now_shelves_mark, rI cI a_now_shelves_byDistance 48 c_now_shelves_byDistance, oX1 a_now_lots c_now_lots_count a_now_lots_product a_now_lots_last a_now_lots_cost a_now_lots_state a_now_lots_byLast, rI cI a_now_lots_product 24 c_now_lots_product, rI cI a_now_lots_last 24 c_now_lots_last, rI cI a_now_lots_state 24 c_now_lots_state, rI cI a_now_lots_byLast 24 c_now_lots_byLast, oX2 a_now_orders c_now_orders_count c_now_orders_gifts a_now_orders_customer a_now_orders_product a_now_orders_open a_now_orders_due a_now_orders_life a_now_orders_byDue a_now_orders_had a_now_orders_stamps, rI cI a_now_orders_product 40 c_now_orders_product, rI cI a_now_orders_open 40 c_now_orders_open, rI cI a_now_orders_due 40 c_now_orders_due, rI cI a_now_orders_life 40 c_now_orders_life, rI cI a_now_orders_byDue 40 c_now_orders_byDue, rI cI a_now_orders_had 960 c_now_orders_had, rI cI a_now_orders_stamps 960 c_now_orders_stamps, oX4 a_plan a_plan_terms a_plan_low a_plan_high a_plan_bottom a_plan_cost a_plan_act, rI cI a_plan_terms 10 c_plan_terms, rI cI a_plan_low 6 c_plan_low, rI cI a_plan_high 6 c_plan_high, rJ cJ a_plan_bottom 6 c_plan_bottom, rJ cJ a_plan_cost 366 c_plan_cost, rI cI a_plan_act 366 c_plan_act, rI cI a_rest 24 c_rest] H := by rw [hHe]; exact hP
  have hS : va_S A s.heap H [] := by rw [hHe]; exact hS
  refine W_heq hHe ?_
  unfold f_X7_errors at hf
  refine gen_goW (fun WW hWW => ?_)
  have hL4 : ∀ (n : Nat) (c_plan_terms : Nat → Int32) (c_plan_low : Nat → Int32) (c_plan_high : Nat → Int32) (c_plan_bottom : Nat → Int64) (c_plan_cost : Nat → Int64) (c_plan_act : Nat → Int32) (n1 : Int32) (n2 : Int32) (c_now_shelves_picked : Int64) (c_now_shelves_lot : Nat → Int32) (c_now_shelves_pieces : Nat → Int32) (c_now_shelves_mark : Nat → Int32) (c_now_orders_gifts : Int32) (c_now_orders_open : Nat → Int32) (c_now_orders_had : Nat → Int32) (c_now_orders_stamps : Nat → Int32) (c_rest : Nat → Int32) (e1 : Int32) (e_c_now_shelves_picked : Int64) (e_c_now_shelves_lot : Nat → Int32) (e_c_now_shelves_pieces : Nat → Int32) (e_c_now_shelves_mark : Nat → Int32) (e_c_now_orders_gifts : Int32) (e_c_now_orders_open : Nat → Int32) (e_c_now_orders_had : Nat → Int32) (e_c_now_orders_stamps : Nat → Int32) (e_c_rest : Nat → Int32), loop (fun z => f_X7_errors_L4 c_now_products c_now_books c_now_terms c_now_shelves_places c_now_shelves_byDistance c_now_lots_count c_now_lots_product c_now_lots_last c_now_lots_state c_now_lots_byLast c_now_orders_count c_now_orders_product c_now_orders_due c_now_orders_life c_now_orders_byDue c_plan_terms c_plan_low c_plan_high c_plan_bottom c_plan_cost c_plan_act z.1 z.2.1 z.2.2.1 z.2.2.2.1 z.2.2.2.2.1 z.2.2.2.2.2.1 z.2.2.2.2.2.2.1 z.2.2.2.2.2.2.2.1 z.2.2.2.2.2.2.2.2.1 z.2.2.2.2.2.2.2.2.2.1 z.2.2.2.2.2.2.2.2.2.2) n (n1, n2, c_now_shelves_picked, c_now_shelves_lot, c_now_shelves_pieces, c_now_shelves_mark, c_now_orders_gifts, c_now_orders_open, c_now_orders_had, c_now_orders_stamps, c_rest) = some (e1, e_c_now_shelves_picked, e_c_now_shelves_lot, e_c_now_shelves_pieces, e_c_now_shelves_mark, e_c_now_orders_gifts, e_c_now_orders_open, e_c_now_orders_had, e_c_now_orders_stamps, e_c_rest) → (∀ (H : Heap) (locs : List Loc) (ls : Array Slot), va_P D vwCl [oX7 a0 a_now a_past c_acts c_nextSlot a_plan a_picker a_rest a_packed, oX6 a_now c_now_today c_now_products c_now_itemCount a_now_items a_now_books a_now_terms a_now_shelves a_now_lots a_now_orders, rI cI a_now_books 6 c_now_books, rI cI a_now_terms 10 c_now_terms, oX5 a_now_shelves c_now_shelves_lanes c_now_shelves_positions c_now_shelves_room c_now_shelves_gap c_now_shelves_places e_c_now_shelves_picked a_now_shelves_lot a_now_shelves_pieces a_now_shelves_mark a_now_shelves_byDistance, rI cI a_now_shelves_lot 48 e_c_now_shelves_lot, rI cI a_now_shelves_pieces 48 e_c_now_shelves_pieces, rI cI a_now_shelves_mark 48 e_c_now_shelves_mark, rI cI a_now_shelves_byDistance 48 c_now_shelves_byDistance, oX1 a_now_lots c_now_lots_count a_now_lots_product a_now_lots_last a_now_lots_cost a_now_lots_state a_now_lots_byLast, rI cI a_now_lots_product 24 c_now_lots_product, rI cI a_now_lots_last 24 c_now_lots_last, rI cI a_now_lots_state 24 c_now_lots_state, rI cI a_now_lots_byLast 24 c_now_lots_byLast, oX2 a_now_orders c_now_orders_count e_c_now_orders_gifts a_now_orders_customer a_now_orders_product a_now_orders_open a_now_orders_due a_now_orders_life a_now_orders_byDue a_now_orders_had a_now_orders_stamps, rI cI a_now_orders_product 40 c_now_orders_product, rI cI a_now_orders_open 40 e_c_now_orders_open, rI cI a_now_orders_due 40 c_now_orders_due, rI cI a_now_orders_life 40 c_now_orders_life, rI cI a_now_orders_byDue 40 c_now_orders_byDue, rI cI a_now_orders_had 960 e_c_now_orders_had, rI cI a_now_orders_stamps 960 e_c_now_orders_stamps, oX4 a_plan a_plan_terms a_plan_low a_plan_high a_plan_bottom a_plan_cost a_plan_act, rI cI a_plan_terms 10 c_plan_terms, rI cI a_plan_low 6 c_plan_low, rI cI a_plan_high 6 c_plan_high, rJ cJ a_plan_bottom 6 c_plan_bottom, rJ cJ a_plan_cost 366 c_plan_cost, rI cI a_plan_act 366 c_plan_act, rI cI a_rest 24 e_c_rest] H → va_D A [oX7 a0 a_now a_past c_acts c_nextSlot a_plan a_picker a_rest a_packed, oX6 a_now c_now_today c_now_products c_now_itemCount a_now_items a_now_books a_now_terms a_now_shelves a_now_lots a_now_orders, rI cI a_now_books 6 c_now_books, rI cI a_now_terms 10 c_now_terms, oX5 a_now_shelves c_now_shelves_lanes c_now_shelves_positions c_now_shelves_room c_now_shelves_gap c_now_shelves_places e_c_now_shelves_picked a_now_shelves_lot a_now_shelves_pieces a_now_shelves_mark a_now_shelves_byDistance, rI cI a_now_shelves_lot 48 e_c_now_shelves_lot, rI cI a_now_shelves_pieces 48 e_c_now_shelves_pieces, rI cI a_now_shelves_mark 48 e_c_now_shelves_mark, rI cI a_now_shelves_byDistance 48 c_now_shelves_byDistance, oX1 a_now_lots c_now_lots_count a_now_lots_product a_now_lots_last a_now_lots_cost a_now_lots_state a_now_lots_byLast, rI cI a_now_lots_product 24 c_now_lots_product, rI cI a_now_lots_last 24 c_now_lots_last, rI cI a_now_lots_state 24 c_now_lots_state, rI cI a_now_lots_byLast 24 c_now_lots_byLast, oX2 a_now_orders c_now_orders_count e_c_now_orders_gifts a_now_orders_customer a_now_orders_product a_now_orders_open a_now_orders_due a_now_orders_life a_now_orders_byDue a_now_orders_had a_now_orders_stamps, rI cI a_now_orders_product 40 c_now_orders_product, rI cI a_now_orders_open 40 e_c_now_orders_open, rI cI a_now_orders_due 40 c_now_orders_due, rI cI a_now_orders_life 40 c_now_orders_life, rI cI a_now_orders_byDue 40 c_now_orders_byDue, rI cI a_now_orders_had 960 e_c_now_orders_had, rI cI a_now_orders_stamps 960 e_c_now_orders_stamps, oX4 a_plan a_plan_terms a_plan_low a_plan_high a_plan_bottom a_plan_cost a_plan_act, rI cI a_plan_terms 10 c_plan_terms, rI cI a_plan_low 6 c_plan_low, rI cI a_plan_high 6 c_plan_high, rJ cJ a_plan_bottom 6 c_plan_bottom, rJ cJ a_plan_cost 366 c_plan_cost, rI cI a_plan_act 366 c_plan_act, rI cI a_rest 24 e_c_rest] → va_S A s.heap H locs → lv_has ls 3 [(0, .ref a0), (1, .int e1)] → WW H locs 0 0 (F0 m 37 ls [])) → ∀ (H : Heap) (locs : List Loc) (ls : Array Slot), va_P D vwCl [oX7 a0 a_now a_past c_acts c_nextSlot a_plan a_picker a_rest a_packed, oX6 a_now c_now_today c_now_products c_now_itemCount a_now_items a_now_books a_now_terms a_now_shelves a_now_lots a_now_orders, rI cI a_now_books 6 c_now_books, rI cI a_now_terms 10 c_now_terms, oX5 a_now_shelves c_now_shelves_lanes c_now_shelves_positions c_now_shelves_room c_now_shelves_gap c_now_shelves_places c_now_shelves_picked a_now_shelves_lot a_now_shelves_pieces a_now_shelves_mark a_now_shelves_byDistance, rI cI a_now_shelves_lot 48 c_now_shelves_lot, rI cI a_now_shelves_pieces 48 c_now_shelves_pieces, rI cI a_now_shelves_mark 48 c_now_shelves_mark, rI cI a_now_shelves_byDistance 48 c_now_shelves_byDistance, oX1 a_now_lots c_now_lots_count a_now_lots_product a_now_lots_last a_now_lots_cost a_now_lots_state a_now_lots_byLast, rI cI a_now_lots_product 24 c_now_lots_product, rI cI a_now_lots_last 24 c_now_lots_last, rI cI a_now_lots_state 24 c_now_lots_state, rI cI a_now_lots_byLast 24 c_now_lots_byLast, oX2 a_now_orders c_now_orders_count c_now_orders_gifts a_now_orders_customer a_now_orders_product a_now_orders_open a_now_orders_due a_now_orders_life a_now_orders_byDue a_now_orders_had a_now_orders_stamps, rI cI a_now_orders_product 40 c_now_orders_product, rI cI a_now_orders_open 40 c_now_orders_open, rI cI a_now_orders_due 40 c_now_orders_due, rI cI a_now_orders_life 40 c_now_orders_life, rI cI a_now_orders_byDue 40 c_now_orders_byDue, rI cI a_now_orders_had 960 c_now_orders_had, rI cI a_now_orders_stamps 960 c_now_orders_stamps, oX4 a_plan a_plan_terms a_plan_low a_plan_high a_plan_bottom a_plan_cost a_plan_act, rI cI a_plan_terms 10 c_plan_terms, rI cI a_plan_low 6 c_plan_low, rI cI a_plan_high 6 c_plan_high, rJ cJ a_plan_bottom 6 c_plan_bottom, rJ cJ a_plan_cost 366 c_plan_cost, rI cI a_plan_act 366 c_plan_act, rI cI a_rest 24 c_rest] H → va_D A [oX7 a0 a_now a_past c_acts c_nextSlot a_plan a_picker a_rest a_packed, oX6 a_now c_now_today c_now_products c_now_itemCount a_now_items a_now_books a_now_terms a_now_shelves a_now_lots a_now_orders, rI cI a_now_books 6 c_now_books, rI cI a_now_terms 10 c_now_terms, oX5 a_now_shelves c_now_shelves_lanes c_now_shelves_positions c_now_shelves_room c_now_shelves_gap c_now_shelves_places c_now_shelves_picked a_now_shelves_lot a_now_shelves_pieces a_now_shelves_mark a_now_shelves_byDistance, rI cI a_now_shelves_lot 48 c_now_shelves_lot, rI cI a_now_shelves_pieces 48 c_now_shelves_pieces, rI cI a_now_shelves_mark 48 c_now_shelves_mark, rI cI a_now_shelves_byDistance 48 c_now_shelves_byDistance, oX1 a_now_lots c_now_lots_count a_now_lots_product a_now_lots_last a_now_lots_cost a_now_lots_state a_now_lots_byLast, rI cI a_now_lots_product 24 c_now_lots_product, rI cI a_now_lots_last 24 c_now_lots_last, rI cI a_now_lots_state 24 c_now_lots_state, rI cI a_now_lots_byLast 24 c_now_lots_byLast, oX2 a_now_orders c_now_orders_count c_now_orders_gifts a_now_orders_customer a_now_orders_product a_now_orders_open a_now_orders_due a_now_orders_life a_now_orders_byDue a_now_orders_had a_now_orders_stamps, rI cI a_now_orders_product 40 c_now_orders_product, rI cI a_now_orders_open 40 c_now_orders_open, rI cI a_now_orders_due 40 c_now_orders_due, rI cI a_now_orders_life 40 c_now_orders_life, rI cI a_now_orders_byDue 40 c_now_orders_byDue, rI cI a_now_orders_had 960 c_now_orders_had, rI cI a_now_orders_stamps 960 c_now_orders_stamps, oX4 a_plan a_plan_terms a_plan_low a_plan_high a_plan_bottom a_plan_cost a_plan_act, rI cI a_plan_terms 10 c_plan_terms, rI cI a_plan_low 6 c_plan_low, rI cI a_plan_high 6 c_plan_high, rJ cJ a_plan_bottom 6 c_plan_bottom, rJ cJ a_plan_cost 366 c_plan_cost, rI cI a_plan_act 366 c_plan_act, rI cI a_rest 24 c_rest] → va_S A s.heap H locs → lv_has ls 3 [(0, .ref a0), (1, .int n1), (2, .int n2)] → WW H locs 0 0 (F0 m 4 ls []) := by
    intro n
    induction n with
    | zero =>
      intro c_plan_terms c_plan_low c_plan_high c_plan_bottom c_plan_cost c_plan_act n1 n2 c_now_shelves_picked c_now_shelves_lot c_now_shelves_pieces c_now_shelves_mark c_now_orders_gifts c_now_orders_open c_now_orders_had c_now_orders_stamps c_rest e1 e_c_now_shelves_picked e_c_now_shelves_lot e_c_now_shelves_pieces e_c_now_shelves_mark e_c_now_orders_gifts e_c_now_orders_open e_c_now_orders_had e_c_now_orders_stamps e_c_rest hlp
      exact absurd hlp (by simp [loop])
    | succ n ih =>
      intro c_plan_terms c_plan_low c_plan_high c_plan_bottom c_plan_cost c_plan_act n1 n2 c_now_shelves_picked c_now_shelves_lot c_now_shelves_pieces c_now_shelves_mark c_now_orders_gifts c_now_orders_open c_now_orders_had c_now_orders_stamps c_rest e1 e_c_now_shelves_picked e_c_now_shelves_lot e_c_now_shelves_pieces e_c_now_shelves_mark e_c_now_orders_gifts e_c_now_orders_open e_c_now_orders_had e_c_now_orders_stamps e_c_rest hlp K H locs ls hP hD hS hl
      obtain ⟨x9, hf, hlp⟩ := loop_s hlp
      have hf : f_X7_errors_L4 c_now_products c_now_books c_now_terms c_now_shelves_places c_now_shelves_byDistance c_now_lots_count c_now_lots_product c_now_lots_last c_now_lots_state c_now_lots_byLast c_now_orders_count c_now_orders_product c_now_orders_due c_now_orders_life c_now_orders_byDue c_plan_terms c_plan_low c_plan_high c_plan_bottom c_plan_cost c_plan_act n1 n2 c_now_shelves_picked c_now_shelves_lot c_now_shelves_pieces c_now_shelves_mark c_now_orders_gifts c_now_orders_open c_now_orders_had c_now_orders_stamps c_rest = some x9 := hf
      unfold f_X7_errors_L4 at hf
      have hJ31 : ∀ (n1 : Int32) (n2 : Int32) (c_now_shelves_picked : Int64) (c_now_shelves_lot : Nat → Int32) (c_now_shelves_pieces : Nat → Int32) (c_now_shelves_mark : Nat → Int32) (c_now_orders_gifts : Int32) (c_now_orders_open : Nat → Int32) (c_now_orders_had : Nat → Int32) (c_now_orders_stamps : Nat → Int32) (c_rest : Nat → Int32), f_X7_errors_L4_J31 n1 n2 c_now_products c_now_books c_now_terms c_now_shelves_places c_now_shelves_picked c_now_shelves_lot c_now_shelves_pieces c_now_shelves_mark c_now_shelves_byDistance c_now_lots_count c_now_lots_product c_now_lots_last c_now_lots_state c_now_lots_byLast c_now_orders_count c_now_orders_gifts c_now_orders_product c_now_orders_open c_now_orders_due c_now_orders_life c_now_orders_byDue c_now_orders_had c_now_orders_stamps c_plan_terms c_plan_low c_plan_high c_plan_bottom c_plan_cost c_plan_act c_rest = some x9 → ∀ (H : Heap) (locs : List Loc) (ls : Array Slot), va_P D vwCl [oX7 a0 a_now a_past c_acts c_nextSlot a_plan a_picker a_rest a_packed, oX6 a_now c_now_today c_now_products c_now_itemCount a_now_items a_now_books a_now_terms a_now_shelves a_now_lots a_now_orders, rI cI a_now_books 6 c_now_books, rI cI a_now_terms 10 c_now_terms, oX5 a_now_shelves c_now_shelves_lanes c_now_shelves_positions c_now_shelves_room c_now_shelves_gap c_now_shelves_places c_now_shelves_picked a_now_shelves_lot a_now_shelves_pieces a_now_shelves_mark a_now_shelves_byDistance, rI cI a_now_shelves_lot 48 c_now_shelves_lot, rI cI a_now_shelves_pieces 48 c_now_shelves_pieces, rI cI a_now_shelves_mark 48 c_now_shelves_mark, rI cI a_now_shelves_byDistance 48 c_now_shelves_byDistance, oX1 a_now_lots c_now_lots_count a_now_lots_product a_now_lots_last a_now_lots_cost a_now_lots_state a_now_lots_byLast, rI cI a_now_lots_product 24 c_now_lots_product, rI cI a_now_lots_last 24 c_now_lots_last, rI cI a_now_lots_state 24 c_now_lots_state, rI cI a_now_lots_byLast 24 c_now_lots_byLast, oX2 a_now_orders c_now_orders_count c_now_orders_gifts a_now_orders_customer a_now_orders_product a_now_orders_open a_now_orders_due a_now_orders_life a_now_orders_byDue a_now_orders_had a_now_orders_stamps, rI cI a_now_orders_product 40 c_now_orders_product, rI cI a_now_orders_open 40 c_now_orders_open, rI cI a_now_orders_due 40 c_now_orders_due, rI cI a_now_orders_life 40 c_now_orders_life, rI cI a_now_orders_byDue 40 c_now_orders_byDue, rI cI a_now_orders_had 960 c_now_orders_had, rI cI a_now_orders_stamps 960 c_now_orders_stamps, oX4 a_plan a_plan_terms a_plan_low a_plan_high a_plan_bottom a_plan_cost a_plan_act, rI cI a_plan_terms 10 c_plan_terms, rI cI a_plan_low 6 c_plan_low, rI cI a_plan_high 6 c_plan_high, rJ cJ a_plan_bottom 6 c_plan_bottom, rJ cJ a_plan_cost 366 c_plan_cost, rI cI a_plan_act 366 c_plan_act, rI cI a_rest 24 c_rest] H → va_D A [oX7 a0 a_now a_past c_acts c_nextSlot a_plan a_picker a_rest a_packed, oX6 a_now c_now_today c_now_products c_now_itemCount a_now_items a_now_books a_now_terms a_now_shelves a_now_lots a_now_orders, rI cI a_now_books 6 c_now_books, rI cI a_now_terms 10 c_now_terms, oX5 a_now_shelves c_now_shelves_lanes c_now_shelves_positions c_now_shelves_room c_now_shelves_gap c_now_shelves_places c_now_shelves_picked a_now_shelves_lot a_now_shelves_pieces a_now_shelves_mark a_now_shelves_byDistance, rI cI a_now_shelves_lot 48 c_now_shelves_lot, rI cI a_now_shelves_pieces 48 c_now_shelves_pieces, rI cI a_now_shelves_mark 48 c_now_shelves_mark, rI cI a_now_shelves_byDistance 48 c_now_shelves_byDistance, oX1 a_now_lots c_now_lots_count a_now_lots_product a_now_lots_last a_now_lots_cost a_now_lots_state a_now_lots_byLast, rI cI a_now_lots_product 24 c_now_lots_product, rI cI a_now_lots_last 24 c_now_lots_last, rI cI a_now_lots_state 24 c_now_lots_state, rI cI a_now_lots_byLast 24 c_now_lots_byLast, oX2 a_now_orders c_now_orders_count c_now_orders_gifts a_now_orders_customer a_now_orders_product a_now_orders_open a_now_orders_due a_now_orders_life a_now_orders_byDue a_now_orders_had a_now_orders_stamps, rI cI a_now_orders_product 40 c_now_orders_product, rI cI a_now_orders_open 40 c_now_orders_open, rI cI a_now_orders_due 40 c_now_orders_due, rI cI a_now_orders_life 40 c_now_orders_life, rI cI a_now_orders_byDue 40 c_now_orders_byDue, rI cI a_now_orders_had 960 c_now_orders_had, rI cI a_now_orders_stamps 960 c_now_orders_stamps, oX4 a_plan a_plan_terms a_plan_low a_plan_high a_plan_bottom a_plan_cost a_plan_act, rI cI a_plan_terms 10 c_plan_terms, rI cI a_plan_low 6 c_plan_low, rI cI a_plan_high 6 c_plan_high, rJ cJ a_plan_bottom 6 c_plan_bottom, rJ cJ a_plan_cost 366 c_plan_cost, rI cI a_plan_act 366 c_plan_act, rI cI a_rest 24 c_rest] → va_S A s.heap H locs → lv_has ls 3 [(0, .ref a0), (1, .int n1), (2, .int n2)] → WW H locs 0 0 (F0 m 31 ls []) := by
        intro n1 n2 c_now_shelves_picked c_now_shelves_lot c_now_shelves_pieces c_now_shelves_mark c_now_orders_gifts c_now_orders_open c_now_orders_had c_now_orders_stamps c_rest hf H locs ls hP hD hS hl
        unfold f_X7_errors_L4_J31 at hf
        refine (hWW _ _ _ _ _).mpr ?_
        refine lv_iinc (v := (n2 + 1)) (lv' := [(2, .int (n2 + 1)), (0, .ref a0), (1, .int n1)]) hx hb dX7_errors_31 hl (k := 2) rfl rfl (by decide) rfl (fun ls hl => ?_)
        refine lv_goto (tgt := 4) hx hb dX7_errors_34 (by decide) ?_
        obtain rfl := Option.some.inj hf
        exact (hWW _ _ _ _ _).mp (ih _ _ _ _ _ _ _ _ _ _ _ _ _ _ _ _ _ _ _ _ _ _ _ _ _ _ _ hlp K _ _ ls hP hD hS (lv_sub hl [1, 2, 0] rfl))
      refine (hWW _ _ _ _ _).mpr ?_
      refine lv_iload_n hx hb dX7_errors_4 rfl (lv_at hl 2 rfl) ?_
      refine lv_aload_n hx hb dX7_errors_5 rfl (lv_at hl 0 rfl) ?_
      refine va_get (D := D) (ci := 6) (v := .ref a_now) (C := RX7) (T := TX7) (N := 8) hx hb hts (fun w h => mb (iX7 w h)) hown hK hP 0 rfl rfl 0 (by decide) (hts _ (mb tb_270)) (fun _ h9 => h9) rfl dX7_errors_6 ?_
      refine va_get (D := D) (ci := 5) (v := .int c_now_products) (C := RX6) (T := TX6) (N := 9) hx hb hts (fun w h => mb (iX6 w h)) hown hK hP 1 rfl rfl 1 (by decide) (hts _ (mb tb_159)) (fun _ h9 => h9) rfl dX7_errors_9 ?_
      refine lv_icmp_ge (tgt := 37) hx hb dX7_errors_12 (by decide) (fun h1 => ?_) (fun h1 => ?_)
      · have hf := ipos h1 hf
        obtain rfl := Option.some.inj hf
        cases lpx_r hlp
        exact (hWW _ _ _ _ _).mp (K _ _ ls hP hD hS (lv_sub hl [0, 1] rfl))
      · have hf := ineg h1 hf
        refine lv_aload_n hx hb dX7_errors_15 rfl (lv_at hl 0 rfl) ?_
        refine lv_iload_n hx hb dX7_errors_16 rfl (lv_at hl 2 rfl) ?_
        obtain ⟨r2, o4, o5, o6, o7, o8, o9, o10, o11, o12, hc3, hf⟩ := ob10 hf
        refine rw_calli (r := r2) (va_runV (As := [.int n2]) (rest := []) ⟨hx, hb, hml, hown, hts⟩ (k_X7_leftOpen l hl0 D cI cJ cZ cS B0 H.size a0 a_now a_past a_plan a_picker a_rest a_packed a_now_items a_now_books a_now_terms a_now_shelves a_now_lots a_now_orders a_now_shelves_lot a_now_shelves_pieces a_now_shelves_mark a_now_shelves_byDistance a_now_lots_product a_now_lots_last a_now_lots_cost a_now_lots_state a_now_lots_byLast a_now_orders_customer a_now_orders_product a_now_orders_open a_now_orders_due a_now_orders_life a_now_orders_byDue a_now_orders_had a_now_orders_stamps c_acts c_nextSlot c_now_today c_now_products c_now_itemCount c_now_shelves_lanes c_now_shelves_positions c_now_shelves_room c_now_shelves_gap c_now_shelves_places c_now_shelves_picked c_now_shelves_lot c_now_shelves_pieces c_now_shelves_mark c_now_shelves_byDistance c_now_lots_count c_now_lots_product c_now_lots_last c_now_lots_state c_now_lots_byLast c_now_orders_count c_now_orders_gifts c_now_orders_product c_now_orders_open c_now_orders_due c_now_orders_life c_now_orders_byDue c_now_orders_had c_now_orders_stamps c_rest n2 r2 o4 o5 o6 o7 o8 o9 o10 o11 o12 hc3) (cwV 1 hts (gV tb_427 tb_429 ts_4 tb_1 tb_430) rfl rfl rfl (by decide +kernel) ⟨Nat.le_of_ble_eq_true rfl, Nat.le_of_ble_eq_true rfl⟩) ⟨wp_blind, va_recv hK hP (ci := 6) (q0 := 0) rfl rfl, wp_pre (hP.sub [0, 1, 4, 5, 6, 7, 8, 9, 10, 11, 12, 13, 14, 15, 16, 17, 18, 19, 20, 21, 29] rfl) hK (va_D.sub (hD.weaken (fun _ _ _ h9 => hAB _ h9)) [0, 1, 4, 5, 6, 7, 8, 9, 10, 11, 12, 13, 14, 15, 16, 17, 18, 19, 20, 21, 29] rfl rfl) (hBn _ _ hS) (hEn _ _ hS)⟩ rfl rfl hl.1 rfl (lv_room (Nat.le_of_ble_eq_true rfl)) dX7_errors_17 ⟨Nat.le_of_ble_eq_true rfl, Nat.le_of_ble_eq_true rfl⟩) hP hD hS hA [oX7 a0 a_now a_past c_acts c_nextSlot a_plan a_picker a_rest a_packed, oX6 a_now c_now_today c_now_products c_now_itemCount a_now_items a_now_books a_now_terms a_now_shelves a_now_lots a_now_orders, rI cI a_now_books 6 c_now_books, rI cI a_now_terms 10 c_now_terms, oX5 a_now_shelves c_now_shelves_lanes c_now_shelves_positions c_now_shelves_room c_now_shelves_gap c_now_shelves_places o4 a_now_shelves_lot a_now_shelves_pieces a_now_shelves_mark a_now_shelves_byDistance, rI cI a_now_shelves_lot 48 o5, rI cI a_now_shelves_pieces 48 o6, rI cI a_now_shelves_mark 48 o7, rI cI a_now_shelves_byDistance 48 c_now_shelves_byDistance, oX1 a_now_lots c_now_lots_count a_now_lots_product a_now_lots_last a_now_lots_cost a_now_lots_state a_now_lots_byLast, rI cI a_now_lots_product 24 c_now_lots_product, rI cI a_now_lots_last 24 c_now_lots_last, rI cI a_now_lots_state 24 c_now_lots_state, rI cI a_now_lots_byLast 24 c_now_lots_byLast, oX2 a_now_orders c_now_orders_count o8 a_now_orders_customer a_now_orders_product a_now_orders_open a_now_orders_due a_now_orders_life a_now_orders_byDue a_now_orders_had a_now_orders_stamps, rI cI a_now_orders_product 40 c_now_orders_product, rI cI a_now_orders_open 40 o9, rI cI a_now_orders_due 40 c_now_orders_due, rI cI a_now_orders_life 40 c_now_orders_life, rI cI a_now_orders_byDue 40 c_now_orders_byDue, rI cI a_now_orders_had 960 o10, rI cI a_now_orders_stamps 960 o11, oX4 a_plan a_plan_terms a_plan_low a_plan_high a_plan_bottom a_plan_cost a_plan_act, rI cI a_plan_terms 10 c_plan_terms, rI cI a_plan_low 6 c_plan_low, rI cI a_plan_high 6 c_plan_high, rJ cJ a_plan_bottom 6 c_plan_bottom, rJ cJ a_plan_cost 366 c_plan_cost, rI cI a_plan_act 366 c_plan_act, rI cI a_rest 24 o12] 30 [0, 1, 4, 5, 6, 7, 8, 9, 10, 11, 12, 13, 14, 15, 16, 17, 18, 19, 20, 21, 29] [2, 3, 22, 23, 24, 25, 26, 27, 28] rfl rfl rfl rfl (by decide +kernel) rfl (fun H locs hP hD hS => ?_)
        refine lv_aload_n hx hb dX7_errors_20 rfl (lv_at hl 0 rfl) ?_
        refine lv_iload_n hx hb dX7_errors_21 rfl (lv_at hl 2 rfl) ?_
        obtain ⟨r13, o15, hc14, hf⟩ := ob2 hf
        refine rw_calli (r := r13) (va_runV (As := [.int n2]) (rest := [.int r2]) ⟨hx, hb, hml, hown, hts⟩ (k_X7_greatestLack l hl0 D cI cJ cZ cS B0 H.size a0 a_now a_past a_plan a_picker a_rest a_packed a_now_items a_now_books a_now_terms a_now_shelves a_now_lots a_now_orders a_now_shelves_lot a_now_shelves_pieces a_now_shelves_mark a_now_shelves_byDistance a_now_lots_product a_now_lots_last a_now_lots_cost a_now_lots_state a_now_lots_byLast a_now_orders_customer a_now_orders_product a_now_orders_open a_now_orders_due a_now_orders_life a_now_orders_byDue a_now_orders_had a_now_orders_stamps c_acts c_nextSlot c_now_today c_now_products c_now_itemCount c_now_shelves_lanes c_now_shelves_positions c_now_shelves_room c_now_shelves_gap c_now_shelves_places o4 o5 o6 c_now_lots_count c_now_lots_product c_now_lots_last c_now_lots_state c_now_orders_count o8 c_now_orders_product o9 c_now_orders_due c_now_orders_life o12 n2 r13 o15 hc14) (cwV 1 hts (gV tb_435 tb_437 ts_5 tb_1 tb_438) rfl rfl rfl (by decide +kernel) ⟨Nat.le_of_ble_eq_true rfl, Nat.le_of_ble_eq_true rfl⟩) ⟨wp_blind, va_recv hK hP (ci := 6) (q0 := 0) rfl rfl, wp_pre (hP.sub [0, 1, 4, 5, 6, 9, 10, 11, 12, 14, 15, 16, 17, 18, 29] rfl) hK (va_D.sub (hD.weaken (fun _ _ _ h9 => hAB _ h9)) [0, 1, 4, 5, 6, 9, 10, 11, 12, 14, 15, 16, 17, 18, 29] rfl rfl) (hBn _ _ hS) (hEn _ _ hS)⟩ rfl rfl hl.1 rfl (lv_room (Nat.le_of_ble_eq_true rfl)) dX7_errors_22 ⟨Nat.le_of_ble_eq_true rfl, Nat.le_of_ble_eq_true rfl⟩) hP hD hS hA [oX7 a0 a_now a_past c_acts c_nextSlot a_plan a_picker a_rest a_packed, oX6 a_now c_now_today c_now_products c_now_itemCount a_now_items a_now_books a_now_terms a_now_shelves a_now_lots a_now_orders, rI cI a_now_books 6 c_now_books, rI cI a_now_terms 10 c_now_terms, oX5 a_now_shelves c_now_shelves_lanes c_now_shelves_positions c_now_shelves_room c_now_shelves_gap c_now_shelves_places o4 a_now_shelves_lot a_now_shelves_pieces a_now_shelves_mark a_now_shelves_byDistance, rI cI a_now_shelves_lot 48 o5, rI cI a_now_shelves_pieces 48 o6, rI cI a_now_shelves_mark 48 o7, rI cI a_now_shelves_byDistance 48 c_now_shelves_byDistance, oX1 a_now_lots c_now_lots_count a_now_lots_product a_now_lots_last a_now_lots_cost a_now_lots_state a_now_lots_byLast, rI cI a_now_lots_product 24 c_now_lots_product, rI cI a_now_lots_last 24 c_now_lots_last, rI cI a_now_lots_state 24 c_now_lots_state, rI cI a_now_lots_byLast 24 c_now_lots_byLast, oX2 a_now_orders c_now_orders_count o8 a_now_orders_customer a_now_orders_product a_now_orders_open a_now_orders_due a_now_orders_life a_now_orders_byDue a_now_orders_had a_now_orders_stamps, rI cI a_now_orders_product 40 c_now_orders_product, rI cI a_now_orders_open 40 o9, rI cI a_now_orders_due 40 c_now_orders_due, rI cI a_now_orders_life 40 c_now_orders_life, rI cI a_now_orders_byDue 40 c_now_orders_byDue, rI cI a_now_orders_had 960 o10, rI cI a_now_orders_stamps 960 o11, oX4 a_plan a_plan_terms a_plan_low a_plan_high a_plan_bottom a_plan_cost a_plan_act, rI cI a_plan_terms 10 c_plan_terms, rI cI a_plan_low 6 c_plan_low, rI cI a_plan_high 6 c_plan_high, rJ cJ a_plan_bottom 6 c_plan_bottom, rJ cJ a_plan_cost 366 c_plan_cost, rI cI a_plan_act 366 c_plan_act, rI cI a_rest 24 o15] 30 [0, 1, 4, 5, 6, 9, 10, 11, 12, 14, 15, 16, 17, 18, 29] [2, 3, 7, 8, 13, 19, 20, 21, 22, 23, 24, 25, 26, 27, 28] rfl rfl rfl rfl (by decide +kernel) rfl (fun H locs hP hD hS => ?_)
        refine lv_icmp_eq (tgt := 31) hx hb dX7_errors_25 (by decide) (fun h16 => ?_) (fun h16 => ?_)
        · have hf := ipos h16 hf
          exact (hWW _ _ _ _ _).mp (hJ31 _ _ _ _ _ _ _ _ _ _ _ hf _ _ ls hP hD hS (lv_sub hl [0, 1, 2] rfl))
        · have hf := ineg h16 hf
          refine lv_iinc (v := (n1 + 1)) (lv' := [(1, .int (n1 + 1)), (0, .ref a0), (2, .int n2)]) hx hb dX7_errors_28 hl (k := 1) rfl rfl (by decide) rfl (fun ls hl => ?_)
          exact (hWW _ _ _ _ _).mp (hJ31 _ _ _ _ _ _ _ _ _ _ _ hf _ _ ls hP hD hS (lv_sub hl [1, 0, 2] rfl))
  have hJ47 : ∀ (n1 : Int32) (c_now_shelves_picked : Int64) (c_now_shelves_lot : Nat → Int32) (c_now_shelves_pieces : Nat → Int32) (c_now_shelves_mark : Nat → Int32) (c_now_orders_gifts : Int32) (c_now_orders_open : Nat → Int32) (c_now_orders_had : Nat → Int32) (c_now_orders_stamps : Nat → Int32) (c_plan_terms : Nat → Int32) (c_plan_low : Nat → Int32) (c_plan_high : Nat → Int32) (c_plan_bottom : Nat → Int64) (c_plan_cost : Nat → Int64) (c_plan_act : Nat → Int32) (c_rest : Nat → Int32), f_X7_errors_J47 n1 c_now_products c_now_books c_now_terms c_now_shelves_places c_now_shelves_picked c_now_shelves_lot c_now_shelves_pieces c_now_shelves_mark c_now_shelves_byDistance c_now_lots_count c_now_lots_product c_now_lots_last c_now_lots_state c_now_lots_byLast c_now_orders_count c_now_orders_gifts c_now_orders_product c_now_orders_open c_now_orders_due c_now_orders_life c_now_orders_byDue c_now_orders_had c_now_orders_stamps c_plan_terms c_plan_low c_plan_high c_plan_bottom c_plan_cost c_plan_act c_rest = some (r9, oc_now_shelves_picked, oc_now_shelves_lot, oc_now_shelves_pieces, oc_now_shelves_mark, oc_now_orders_gifts, oc_now_orders_open, oc_now_orders_had, oc_now_orders_stamps, oc_plan_terms, oc_plan_low, oc_plan_high, oc_plan_bottom, oc_plan_cost, oc_plan_act, oc_rest) → ∀ (H : Heap) (locs : List Loc) (ls : Array Slot), va_P D vwCl [oX7 a0 a_now a_past c_acts c_nextSlot a_plan a_picker a_rest a_packed, oX6 a_now c_now_today c_now_products c_now_itemCount a_now_items a_now_books a_now_terms a_now_shelves a_now_lots a_now_orders, rI cI a_now_books 6 c_now_books, rI cI a_now_terms 10 c_now_terms, oX5 a_now_shelves c_now_shelves_lanes c_now_shelves_positions c_now_shelves_room c_now_shelves_gap c_now_shelves_places c_now_shelves_picked a_now_shelves_lot a_now_shelves_pieces a_now_shelves_mark a_now_shelves_byDistance, rI cI a_now_shelves_lot 48 c_now_shelves_lot, rI cI a_now_shelves_pieces 48 c_now_shelves_pieces, rI cI a_now_shelves_mark 48 c_now_shelves_mark, rI cI a_now_shelves_byDistance 48 c_now_shelves_byDistance, oX1 a_now_lots c_now_lots_count a_now_lots_product a_now_lots_last a_now_lots_cost a_now_lots_state a_now_lots_byLast, rI cI a_now_lots_product 24 c_now_lots_product, rI cI a_now_lots_last 24 c_now_lots_last, rI cI a_now_lots_state 24 c_now_lots_state, rI cI a_now_lots_byLast 24 c_now_lots_byLast, oX2 a_now_orders c_now_orders_count c_now_orders_gifts a_now_orders_customer a_now_orders_product a_now_orders_open a_now_orders_due a_now_orders_life a_now_orders_byDue a_now_orders_had a_now_orders_stamps, rI cI a_now_orders_product 40 c_now_orders_product, rI cI a_now_orders_open 40 c_now_orders_open, rI cI a_now_orders_due 40 c_now_orders_due, rI cI a_now_orders_life 40 c_now_orders_life, rI cI a_now_orders_byDue 40 c_now_orders_byDue, rI cI a_now_orders_had 960 c_now_orders_had, rI cI a_now_orders_stamps 960 c_now_orders_stamps, oX4 a_plan a_plan_terms a_plan_low a_plan_high a_plan_bottom a_plan_cost a_plan_act, rI cI a_plan_terms 10 c_plan_terms, rI cI a_plan_low 6 c_plan_low, rI cI a_plan_high 6 c_plan_high, rJ cJ a_plan_bottom 6 c_plan_bottom, rJ cJ a_plan_cost 366 c_plan_cost, rI cI a_plan_act 366 c_plan_act, rI cI a_rest 24 c_rest] H → va_D A [oX7 a0 a_now a_past c_acts c_nextSlot a_plan a_picker a_rest a_packed, oX6 a_now c_now_today c_now_products c_now_itemCount a_now_items a_now_books a_now_terms a_now_shelves a_now_lots a_now_orders, rI cI a_now_books 6 c_now_books, rI cI a_now_terms 10 c_now_terms, oX5 a_now_shelves c_now_shelves_lanes c_now_shelves_positions c_now_shelves_room c_now_shelves_gap c_now_shelves_places c_now_shelves_picked a_now_shelves_lot a_now_shelves_pieces a_now_shelves_mark a_now_shelves_byDistance, rI cI a_now_shelves_lot 48 c_now_shelves_lot, rI cI a_now_shelves_pieces 48 c_now_shelves_pieces, rI cI a_now_shelves_mark 48 c_now_shelves_mark, rI cI a_now_shelves_byDistance 48 c_now_shelves_byDistance, oX1 a_now_lots c_now_lots_count a_now_lots_product a_now_lots_last a_now_lots_cost a_now_lots_state a_now_lots_byLast, rI cI a_now_lots_product 24 c_now_lots_product, rI cI a_now_lots_last 24 c_now_lots_last, rI cI a_now_lots_state 24 c_now_lots_state, rI cI a_now_lots_byLast 24 c_now_lots_byLast, oX2 a_now_orders c_now_orders_count c_now_orders_gifts a_now_orders_customer a_now_orders_product a_now_orders_open a_now_orders_due a_now_orders_life a_now_orders_byDue a_now_orders_had a_now_orders_stamps, rI cI a_now_orders_product 40 c_now_orders_product, rI cI a_now_orders_open 40 c_now_orders_open, rI cI a_now_orders_due 40 c_now_orders_due, rI cI a_now_orders_life 40 c_now_orders_life, rI cI a_now_orders_byDue 40 c_now_orders_byDue, rI cI a_now_orders_had 960 c_now_orders_had, rI cI a_now_orders_stamps 960 c_now_orders_stamps, oX4 a_plan a_plan_terms a_plan_low a_plan_high a_plan_bottom a_plan_cost a_plan_act, rI cI a_plan_terms 10 c_plan_terms, rI cI a_plan_low 6 c_plan_low, rI cI a_plan_high 6 c_plan_high, rJ cJ a_plan_bottom 6 c_plan_bottom, rJ cJ a_plan_cost 366 c_plan_cost, rI cI a_plan_act 366 c_plan_act, rI cI a_rest 24 c_rest] → va_S A s.heap H locs → lv_has ls 3 [(0, .ref a0), (1, .int n1)] → WW H locs 0 0 (F0 m 47 ls []) := by
    intro n1 c_now_shelves_picked c_now_shelves_lot c_now_shelves_pieces c_now_shelves_mark c_now_orders_gifts c_now_orders_open c_now_orders_had c_now_orders_stamps c_plan_terms c_plan_low c_plan_high c_plan_bottom c_plan_cost c_plan_act c_rest hf H locs ls hP hD hS hl
    unfold f_X7_errors_J47 at hf
    refine (hWW _ _ _ _ _).mpr ?_
    refine lv_aload_n hx hb dX7_errors_47 rfl (lv_at hl 0 rfl) ?_
    refine va_get (D := D) (ci := 6) (v := .ref a_plan) (C := RX7) (T := TX7) (N := 8) hx hb hts (fun w h => mb (iX7 w h)) hown hK hP 0 rfl rfl 4 (by decide) (hts _ (mb tb_274)) (fun _ h9 => h9) rfl dX7_errors_48 ?_
    refine lv_aload_n hx hb dX7_errors_51 rfl (lv_at hl 0 rfl) ?_
    refine va_get (D := D) (ci := 6) (v := .ref a_now) (C := RX7) (T := TX7) (N := 8) hx hb hts (fun w h => mb (iX7 w h)) hown hK hP 0 rfl rfl 0 (by decide) (hts _ (mb tb_270)) (fun _ h9 => h9) rfl dX7_errors_52 ?_
    refine va_get (D := D) (ci := 5) (v := .ref a_now_terms) (C := RX6) (T := TX6) (N := 9) hx hb hts (fun w h => mb (iX6 w h)) hown hK hP 1 rfl rfl 5 (by decide) (hts _ (mb tb_167)) (fun _ h9 => h9) rfl dX7_errors_55 ?_
    obtain ⟨o33, o34, o35, o36, o37, o38, hc32, hf⟩ := ob6 hf
    refine rw_callv (va_runV (As := [.ref a_now_terms]) (rest := []) ⟨hx, hb, hml, hown, hts⟩ (k_X4_solve l hl0 D cI cJ cZ cS B0 H.size a_plan a_plan_terms a_plan_low a_plan_high a_plan_bottom a_plan_cost a_plan_act a_now_terms c_plan_terms c_plan_low c_plan_high c_plan_bottom c_plan_cost c_plan_act c_now_terms o33 o34 o35 o36 o37 o38 hc32) (cwV 1 hts (gV tb_459 tb_460 tb_461 tb_6 tb_462) rfl rfl rfl (by decide +kernel) ⟨Nat.le_of_ble_eq_true rfl, Nat.le_of_ble_eq_true rfl⟩) ⟨wp_blind, va_recv hK hP (ci := 3) (q0 := 22) rfl rfl, wp_pre (hP.sub [22, 23, 24, 25, 26, 27, 28, 3] rfl) hK (va_D.sub (hD.weaken (fun _ _ _ h9 => hAB _ h9)) [22, 23, 24, 25, 26, 27, 28, 3] rfl rfl) (hBn _ _ hS) (hEn _ _ hS)⟩ rfl rfl hl.1 rfl (lv_room (Nat.le_of_ble_eq_true rfl)) dX7_errors_58 ⟨Nat.le_of_ble_eq_true rfl, Nat.le_of_ble_eq_true rfl⟩) hP hD hS hA [oX7 a0 a_now a_past c_acts c_nextSlot a_plan a_picker a_rest a_packed, oX6 a_now c_now_today c_now_products c_now_itemCount a_now_items a_now_books a_now_terms a_now_shelves a_now_lots a_now_orders, rI cI a_now_books 6 c_now_books, rI cI a_now_terms 10 c_now_terms, oX5 a_now_shelves c_now_shelves_lanes c_now_shelves_positions c_now_shelves_room c_now_shelves_gap c_now_shelves_places c_now_shelves_picked a_now_shelves_lot a_now_shelves_pieces a_now_shelves_mark a_now_shelves_byDistance, rI cI a_now_shelves_lot 48 c_now_shelves_lot, rI cI a_now_shelves_pieces 48 c_now_shelves_pieces, rI cI a_now_shelves_mark 48 c_now_shelves_mark, rI cI a_now_shelves_byDistance 48 c_now_shelves_byDistance, oX1 a_now_lots c_now_lots_count a_now_lots_product a_now_lots_last a_now_lots_cost a_now_lots_state a_now_lots_byLast, rI cI a_now_lots_product 24 c_now_lots_product, rI cI a_now_lots_last 24 c_now_lots_last, rI cI a_now_lots_state 24 c_now_lots_state, rI cI a_now_lots_byLast 24 c_now_lots_byLast, oX2 a_now_orders c_now_orders_count c_now_orders_gifts a_now_orders_customer a_now_orders_product a_now_orders_open a_now_orders_due a_now_orders_life a_now_orders_byDue a_now_orders_had a_now_orders_stamps, rI cI a_now_orders_product 40 c_now_orders_product, rI cI a_now_orders_open 40 c_now_orders_open, rI cI a_now_orders_due 40 c_now_orders_due, rI cI a_now_orders_life 40 c_now_orders_life, rI cI a_now_orders_byDue 40 c_now_orders_byDue, rI cI a_now_orders_had 960 c_now_orders_had, rI cI a_now_orders_stamps 960 c_now_orders_stamps, oX4 a_plan a_plan_terms a_plan_low a_plan_high a_plan_bottom a_plan_cost a_plan_act, rI cI a_plan_terms 10 o33, rI cI a_plan_low 6 o34, rI cI a_plan_high 6 o35, rJ cJ a_plan_bottom 6 o36, rJ cJ a_plan_cost 366 o37, rI cI a_plan_act 366 o38, rI cI a_rest 24 c_rest] 30 [22, 23, 24, 25, 26, 27, 28, 3] [0, 1, 2, 4, 5, 6, 7, 8, 9, 10, 11, 12, 13, 14, 15, 16, 17, 18, 19, 20, 21, 29] rfl rfl rfl rfl (by decide +kernel) rfl (fun H locs hP hD hS => ?_)
    refine lv_iload_n hx hb dX7_errors_61 rfl (lv_at hl 1 rfl) ?_
    refine lv_aload_n hx hb dX7_errors_62 rfl (lv_at hl 0 rfl) ?_
    refine va_get (D := D) (ci := 6) (v := .ref a_plan) (C := RX7) (T := TX7) (N := 8) hx hb hts (fun w h => mb (iX7 w h)) hown hK hP 0 rfl rfl 4 (by decide) (hts _ (mb tb_274)) (fun _ h9 => h9) rfl dX7_errors_63 ?_
    obtain ⟨r39, hc40, hf⟩ := ob1 hf
    refine ro_calli (r := r39) (va_runV (As := []) (rest := [.int n1]) ⟨hx, hb, hml, hown, hts⟩ (k_X4_strayActs l hl0 D cI cJ cZ cS B0 H a_plan a_plan_terms a_plan_low a_plan_high a_plan_bottom a_plan_cost a_plan_act o33 o34 o35 o38 r39 hc40) (cwV 0 hts (gV tb_480 tb_481 tb_482 tb_6 tb_483) rfl rfl rfl (by decide +kernel) ⟨Nat.le_of_ble_eq_true rfl, Nat.le_of_ble_eq_true rfl⟩) ⟨rp_blind, va_recv hK hP (ci := 3) (q0 := 22) rfl rfl, rp_pre (hP.sub [22, 23, 24, 25, 28] rfl) hK (hBn _ _ hS) (hEn _ _ hS)⟩ rfl rfl hl.1 rfl (lv_room (Nat.le_of_ble_eq_true rfl)) dX7_errors_66 ⟨Nat.le_of_ble_eq_true rfl, Nat.le_of_ble_eq_true rfl⟩) ?_
    refine lv_iadd hx hb dX7_errors_69 ?_
    cases hf
    refine W.widen (k := 0) (n := 0) (Nat.le_of_ble_eq_true rfl) (Nat.le_of_ble_eq_true rfl) ?_
    exact W.iret hx hb hr (fun t ht hW => ⟨⟨_, (), rfl, rfl, (by show va_P D vwCl _ t.heap; rw [ht]; exact hP)⟩, hS.F ht⟩) hS.2.2 dX7_errors_70
  refine (hWW _ _ _ _ _).mpr ?_
  refine lv_iconst (v := 0) hx hb dX7_errors_0 (by decide) ?_
  refine lv_istore_n (lv' := [(1, .int 0), (0, .ref a0)]) hx hb dX7_errors_1 rfl hl (by decide) rfl (fun ls hl => ?_)
  refine lv_iconst (v := 0) hx hb dX7_errors_2 (by decide) ?_
  refine lv_istore_n (lv' := [(2, .int 0), (1, .int 0), (0, .ref a0)]) hx hb dX7_errors_3 rfl hl (by decide) rfl (fun ls hl => ?_)
  obtain ⟨m18, c19, c20, c21, c22, c23, c24, c25, c26, c27, hc17, hf⟩ := ob10 hf
  refine (hWW _ _ _ _ _).mp (hL4 fu _ _ _ _ _ _ _ _ _ _ _ _ _ _ _ _ _ _ _ _ _ _ _ _ _ _ _ hc17 (fun H locs ls hP hD hS hl => ?_) _ _ ls hP hD hS (lv_sub hl [2, 1, 0] rfl))
  · refine (hWW _ _ _ _ _).mpr ?_
    refine lv_aload_n hx hb dX7_errors_37 rfl (lv_at hl 0 rfl) ?_
    obtain ⟨r28, hc29, hf⟩ := ob1 hf
    refine ro_calli (r := r28) (va_runV (As := []) (rest := []) ⟨hx, hb, hml, hown, hts⟩ (k_X7_doBooksAddUp l hl0 D cI cJ cZ cS B0 H a0 a_now a_past a_plan a_picker a_rest a_packed a_now_items a_now_books a_now_terms a_now_shelves a_now_lots a_now_orders a_now_shelves_lot a_now_shelves_pieces a_now_shelves_mark a_now_shelves_byDistance c_acts c_nextSlot c_now_today c_now_products c_now_itemCount c_now_books c_now_shelves_lanes c_now_shelves_positions c_now_shelves_room c_now_shelves_gap c_now_shelves_places c19 c21 r28 hc29) (cwV 0 hts (gV tb_451 tb_453 ts_7 tb_1 tb_454) rfl rfl rfl (by decide +kernel) ⟨Nat.le_of_ble_eq_true rfl, Nat.le_of_ble_eq_true rfl⟩) ⟨rp_blind, va_recv hK hP (ci := 6) (q0 := 0) rfl rfl, rp_pre (hP.sub [0, 1, 2, 4, 6] rfl) hK (hBn _ _ hS) (hEn _ _ hS)⟩ rfl rfl hl.1 rfl (lv_room (Nat.le_of_ble_eq_true rfl)) dX7_errors_38 ⟨Nat.le_of_ble_eq_true rfl, Nat.le_of_ble_eq_true rfl⟩) ?_
    refine lv_if_ne (tgt := 47) hx hb dX7_errors_41 (by decide) (fun h30 => ?_) (fun h30 => ?_)
    · have hf := ineg h30 hf
      exact (hWW _ _ _ _ _).mp (hJ47 _ _ _ _ _ _ _ _ _ _ _ _ _ _ _ _ hf _ _ ls hP hD hS (lv_sub hl [0, 1] rfl))
    · have hf := ipos h30 hf
      refine lv_iinc (v := (m18 + 1)) (lv' := [(1, .int (m18 + 1)), (0, .ref a0)]) hx hb dX7_errors_44 hl (k := 1) rfl rfl (by decide) rfl (fun ls hl => ?_)
      exact (hWW _ _ _ _ _).mp (hJ47 _ _ _ _ _ _ _ _ _ _ _ _ _ _ _ _ hf _ _ ls hP hD hS (lv_sub hl [1, 0] rfl))
def f_X7_placesForReturn_L13_J128 (n1 : Int32) (n3 : Int32) (n4 : Int32) (n6 : Int32) (n7 : Int32) (n8 : Int32) (c_now_today : Int32) (c_now_shelves_room : Int32) (c_now_shelves_places : Int32) (c_now_shelves_lot : Nat → Int32) (c_now_shelves_pieces : Nat → Int32) (c_now_lots_count : Int32) (c_now_lots_last : Nat → Int32) (c_now_lots_state : Nat → Int32) (c_now_orders_count : Int32) (c_now_orders_had : Nat → Int32) (c_now_orders_stamps : Nat → Int32) : Option ((Int32 × Int32 × Int32 × Int32) ⊕ ((Int32) ⊕ Int32)) :=
  bnd1 (f_X2_stampOf n1 n7 c_now_orders_count c_now_orders_stamps) (fun r13 =>
  (some (.inl (n3, n4 - n8, r13, n6 + 1))))
def f_X7_placesForReturn_L13 (n1 : Int32) (c_now_today : Int32) (c_now_shelves_room : Int32) (c_now_shelves_places : Int32) (c_now_shelves_lot : Nat → Int32) (c_now_shelves_pieces : Nat → Int32) (c_now_lots_count : Int32) (c_now_lots_last : Nat → Int32) (c_now_lots_state : Nat → Int32) (c_now_orders_count : Int32) (c_now_orders_had : Nat → Int32) (c_now_orders_stamps : Nat → Int32) (n3 : Int32) (n4 : Int32) (n5 : Int32) (n6 : Int32) : Option ((Int32 × Int32 × Int32 × Int32) ⊕ ((Int32) ⊕ Int32)) :=
  (if 24 ≤ n6 then some (.inr (.inr n3))
  else (if n4 ≤ 0 then some (.inr (.inr n3))
  else bnd1 (f_X2_latestLot n1 n5 c_now_orders_count c_now_orders_had c_now_orders_stamps) (fun r3 =>
  (bnd1 (f_X1_exists r3 c_now_lots_count) (fun r5 =>
  ((if r5 = 0 then some (.inr (.inl n3))
  else bnd1 (f_X2_piecesOf n1 r3 c_now_orders_count c_now_orders_had) (fun r8 =>
  (bnd1 (f_X1_isWaste r3 c_now_today c_now_lots_count c_now_lots_last c_now_lots_state) (fun r10 =>
  ((if r10 = 0 then bnd1 (f_X5_roomBeside r3 c_now_shelves_room c_now_shelves_places c_now_shelves_lot c_now_shelves_pieces) (fun r15 =>
  (bnd1 (f_X5_placesFor ((if r8 < n4 then r8 else n4) - r15) c_now_shelves_room) (fun r17 =>
  (f_X7_placesForReturn_L13_J128 n1 (n3 + r17) n4 n6 r3 (if r8 < n4 then r8 else n4) c_now_today c_now_shelves_room c_now_shelves_places c_now_shelves_lot c_now_shelves_pieces c_now_lots_count c_now_lots_last c_now_lots_state c_now_orders_count c_now_orders_had c_now_orders_stamps))))
  else f_X7_placesForReturn_L13_J128 n1 n3 n4 n6 r3 (if r8 < n4 then r8 else n4) c_now_today c_now_shelves_room c_now_shelves_places c_now_shelves_lot c_now_shelves_pieces c_now_lots_count c_now_lots_last c_now_lots_state c_now_orders_count c_now_orders_had c_now_orders_stamps))))))))))))
def f_X7_placesForReturn (v1 : Int32) (v2 : Int32) (c_now_today : Int32) (c_now_shelves_room : Int32) (c_now_shelves_places : Int32) (c_now_shelves_lot : Nat → Int32) (c_now_shelves_pieces : Nat → Int32) (c_now_lots_count : Int32) (c_now_lots_last : Nat → Int32) (c_now_lots_state : Nat → Int32) (c_now_orders_count : Int32) (c_now_orders_had : Nat → Int32) (c_now_orders_stamps : Nat → Int32) : Option (Int32) :=
  (bnd1 (loop (fun z => f_X7_placesForReturn_L13 v1 c_now_today c_now_shelves_room c_now_shelves_places c_now_shelves_lot c_now_shelves_pieces c_now_lots_count c_now_lots_last c_now_lots_state c_now_orders_count c_now_orders_had c_now_orders_stamps z.1 z.2.1 z.2.2.1 z.2.2.2) fu (0, v2, 2147483647, 0)) fun e20 =>
  (sel (fun m21 => some m21) (fun m22 => some m22)) e20)
set_option maxHeartbeats 4000000 in
set_option maxRecDepth 100000 in
theorem k_X7_placesForReturn (l : Launch) (hl0 : l.stackTraces = false) (D : va_G) (cI cJ cZ cS : ClassId) (B0 : Nat) (H0 : Heap) (a0 a_now a_past a_plan a_picker a_rest a_packed a_now_items a_now_books a_now_terms a_now_shelves a_now_lots a_now_orders a_now_shelves_lot a_now_shelves_pieces a_now_shelves_mark a_now_shelves_byDistance a_now_lots_product a_now_lots_last a_now_lots_cost a_now_lots_state a_now_lots_byLast a_now_orders_customer a_now_orders_product a_now_orders_open a_now_orders_due a_now_orders_life a_now_orders_byDue a_now_orders_had a_now_orders_stamps : Nat) (c_acts : Int32) (c_nextSlot : Int32) (c_now_today : Int32) (c_now_products : Int32) (c_now_itemCount : Int32) (c_now_shelves_lanes : Int32) (c_now_shelves_positions : Int32) (c_now_shelves_room : Int32) (c_now_shelves_gap : Int32) (c_now_shelves_places : Int32) (c_now_shelves_picked : Int64) (c_now_shelves_lot : Nat → Int32) (c_now_shelves_pieces : Nat → Int32) (c_now_lots_count : Int32) (c_now_lots_last : Nat → Int32) (c_now_lots_state : Nat → Int32) (c_now_orders_count : Int32) (c_now_orders_gifts : Int32) (c_now_orders_had : Nat → Int32) (c_now_orders_stamps : Nat → Int32) (v1 : Int32) (v2 : Int32) (r9 : Int32)  (hf : f_X7_placesForReturn v1 v2 c_now_today c_now_shelves_room c_now_shelves_places c_now_shelves_lot c_now_shelves_pieces c_now_lots_count c_now_lots_last c_now_lots_state c_now_orders_count c_now_orders_had c_now_orders_stamps = some r9) : Met l yX7_placesForReturn (wz yX7_placesForReturn cX7_placesForReturn 9 (some .int)) ({ frames := 4, cells := 0, slots := 0, locals := 90 }) (va_Pc [.ref a0, .int v1, .int v2] (rp D cI cJ cZ cS B0 [oX7 a0 a_now a_past c_acts c_nextSlot a_plan a_picker a_rest a_packed, oX6 a_now c_now_today c_now_products c_now_itemCount a_now_items a_now_books a_now_terms a_now_shelves a_now_lots a_now_orders, oX5 a_now_shelves c_now_shelves_lanes c_now_shelves_positions c_now_shelves_room c_now_shelves_gap c_now_shelves_places c_now_shelves_picked a_now_shelves_lot a_now_shelves_pieces a_now_shelves_mark a_now_shelves_byDistance, rI cI a_now_shelves_lot 48 c_now_shelves_lot, rI cI a_now_shelves_pieces 48 c_now_shelves_pieces, oX1 a_now_lots c_now_lots_count a_now_lots_product a_now_lots_last a_now_lots_cost a_now_lots_state a_now_lots_byLast, rI cI a_now_lots_last 24 c_now_lots_last, rI cI a_now_lots_state 24 c_now_lots_state, oX2 a_now_orders c_now_orders_count c_now_orders_gifts a_now_orders_customer a_now_orders_product a_now_orders_open a_now_orders_due a_now_orders_life a_now_orders_byDue a_now_orders_had a_now_orders_stamps, rI cI a_now_orders_had 960 c_now_orders_had, rI cI a_now_orders_stamps 960 c_now_orders_stamps] H0)) (va_Qi (fun (r2 : Int32) (_ : Unit) => r2 = r9) (fun _ t => t.heap = H0) (fun q => H0.size ≤ q)) 0 0 (fun q => H0.size ≤ q) := by
  refine Met.ofW (cc := cX7_placesForReturn) (maxL := 9) (ret := (some .int)) (by decide) rfl ?_
  intro p e s m args below meth c s₁ B hml hv
  obtain ⟨rfl, hH, hP, hK, hB0, hE⟩ := hv
  subst hH
  have hx := B.exec
  have hb := B.bytes
  have hr := B.returns
  have hts := atoms_spec (ws := (wz yX7_placesForReturn cX7_placesForReturn 9 (some .int))) B.pre
  have hown : s.vm.findClass RX7 = some m.cls := findClass_of_methodNamed B.named
  have hlocks := B.notSynchronized
  have hAB : ∀ q : Nat, s.heap.size ≤ q → B0 ≤ q := fun q h => Nat.le_trans hB0 h
  have hA : ∀ q : Nat, s.heap.size ≤ q → s.heap.size ≤ q := fun _ h => h
  have hS : va_S (fun q => s.heap.size ≤ q) s.heap s.heap [] := va_S.rf
  have hBn := fun (H : Heap) (locs : List Loc) (h : va_S (fun q => s.heap.size ≤ q) s.heap H locs) => Nat.le_trans hB0 h.1
  have hEn := fun (H : Heap) (locs : List Loc) (h : va_S (fun q => s.heap.size ≤ q) s.heap H locs) => gE_now hE h hAB
  have hl := lv_entry ([.ref a0, .int v1, .int v2]) (n := 9) (Nat.le_of_ble_eq_true rfl)
  rw [lg_entry_eq]
  generalize (lg_sl ([.ref a0, .int v1, .int v2]) ++ List.replicate (9 - (lg_sl ([.ref a0, .int v1, .int v2])).length) Slot.unset).toArray = ls at hl ⊢
  have hl : lv_has ls 9 [(0, .ref a0), (1, .int v1), (2, .int v2)] := hl
  obtain ⟨H, hHe⟩ : ∃ H : Heap, H = s.heap := ⟨_, rfl⟩
  have hP : va_P D vwCl [oX7 a0 a_now a_past c_acts c_nextSlot a_plan a_picker a_rest a_packed, oX6 a_now c_now_today c_now_products c_now_itemCount a_now_items a_now_books a_now_terms a_now_shelves a_now_lots a_now_orders, oX5 a_now_shelves c_now_shelves_lanes c_now_shelves_positions c_now_shelves_room c_now_shelves_gap c_now_shelves_places c_now_shelves_picked a_now_shelves_lot a_now_shelves_pieces a_now_shelves_mark a_now_shelves_byDistance, rI cI a_now_shelves_lot 48 c_now_shelves_lot, rI cI a_now_shelves_pieces 48 c_now_shelves_pieces, oX1 a_now_lots c_now_lots_count a_now_lots_product a_now_lots_last a_now_lots_cost a_now_lots_state a_now_lots_byLast, rI cI a_now_lots_last 24 c_now_lots_last, rI cI a_now_lots_state 24 c_now_lots_state, oX2 a_now_orders c_now_orders_count c_now_orders_gifts a_now_orders_customer a_now_orders_product a_now_orders_open a_now_orders_due a_now_orders_life a_now_orders_byDue a_now_orders_had a_now_orders_stamps, rI cI a_now_orders_had 960 c_now_orders_had, rI cI a_now_orders_stamps 960 c_now_orders_stamps] H := by rw [hHe]; exact hP
  have hS : va_S (fun q => s.heap.size ≤ q) s.heap H [] := by rw [hHe]; exact hS
  refine W_heq hHe ?_
  unfold f_X7_placesForReturn at hf
  refine gen_go (fun WW hWW => ?_)
  have hL13 : ∀ (n : Nat) (n1 : Int32) (n3 : Int32) (n4 : Int32) (n5 : Int32) (n6 : Int32) (e9 : ((Int32) ⊕ Int32)), loop (fun z => f_X7_placesForReturn_L13 n1 c_now_today c_now_shelves_room c_now_shelves_places c_now_shelves_lot c_now_shelves_pieces c_now_lots_count c_now_lots_last c_now_lots_state c_now_orders_count c_now_orders_had c_now_orders_stamps z.1 z.2.1 z.2.2.1 z.2.2.2) n (n3, n4, n5, n6) = some e9 → (∀ (e3 : Int32), e9 = (.inl e3) → ∀ (ls : Array Slot), lv_has ls 9 [(3, .int e3)] → WW (F0 m 55 ls [])) → (∀ (e3 : Int32), e9 = (.inr e3) → ∀ (ls : Array Slot), lv_has ls 9 [(3, .int e3)] → WW (F0 m 156 ls [])) → ∀ (ls : Array Slot), lv_has ls 9 [(0, .ref a0), (1, .int n1), (3, .int n3), (4, .int n4), (5, .int n5), (6, .int n6)] → WW (F0 m 13 ls []) := by
    intro n
    induction n with
    | zero =>
      intro n1 n3 n4 n5 n6 e9 hlp
      exact absurd hlp (by simp [loop])
    | succ n ih =>
      intro n1 n3 n4 n5 n6 e9 hlp K0 K1 ls hl
      obtain ⟨x9, hf, hlp⟩ := loop_s hlp
      have hf : f_X7_placesForReturn_L13 n1 c_now_today c_now_shelves_room c_now_shelves_places c_now_shelves_lot c_now_shelves_pieces c_now_lots_count c_now_lots_last c_now_lots_state c_now_orders_count c_now_orders_had c_now_orders_stamps n3 n4 n5 n6 = some x9 := hf
      unfold f_X7_placesForReturn_L13 at hf
      have hJ128 : ∀ (n3 : Int32) (n4 : Int32) (n6 : Int32) (n7 : Int32) (n8 : Int32), f_X7_placesForReturn_L13_J128 n1 n3 n4 n6 n7 n8 c_now_today c_now_shelves_room c_now_shelves_places c_now_shelves_lot c_now_shelves_pieces c_now_lots_count c_now_lots_last c_now_lots_state c_now_orders_count c_now_orders_had c_now_orders_stamps = some x9 → ∀ (ls : Array Slot), lv_has ls 9 [(0, .ref a0), (1, .int n1), (3, .int n3), (4, .int n4), (6, .int n6), (7, .int n7), (8, .int n8)] → WW (F0 m 128 ls []) := by
        intro n3 n4 n6 n7 n8 hf ls hl
        unfold f_X7_placesForReturn_L13_J128 at hf
        refine (hWW _).mpr ?_
        refine lv_iload hx hb dX7_placesForReturn_128 (lv_at hl 3 rfl) ?_
        refine lv_iload hx hb dX7_placesForReturn_130 (lv_at hl 6 rfl) ?_
        refine lv_isub hx hb dX7_placesForReturn_132 ?_
        refine lv_istore (lv' := [(4, .int (n4 - n8)), (0, .ref a0), (1, .int n1), (3, .int n3), (6, .int n6), (7, .int n7), (8, .int n8)]) hx hb dX7_placesForReturn_133 hl (by decide) rfl (fun ls hl => ?_)
        refine lv_aload_n hx hb dX7_placesForReturn_135 rfl (lv_at hl 1 rfl) ?_
        refine va_get (D := D) (ci := 6) (v := .ref a_now) (C := RX7) (T := TX7) (N := 8) hx hb hts (fun w h => mb (iX7 w h)) hown hK hP 0 rfl rfl 0 (by decide) (hts _ (mb tb_270)) (fun _ h9 => h9) rfl dX7_placesForReturn_136 ?_
        refine va_get (D := D) (ci := 5) (v := .ref a_now_orders) (C := RX6) (T := TX6) (N := 9) hx hb hts (fun w h => mb (iX6 w h)) hown hK hP 1 rfl rfl 8 (by decide) (hts _ (mb tb_173)) (fun _ h9 => h9) rfl dX7_placesForReturn_139 ?_
        refine lv_iload_n hx hb dX7_placesForReturn_142 rfl (lv_at hl 2 rfl) ?_
        refine lv_iload hx hb dX7_placesForReturn_143 (lv_at hl 5 rfl) ?_
        obtain ⟨r13, hc14, hf⟩ := ob1 hf
        refine ro_calli (r := r13) (va_runV (As := [.int n1, .int n7]) (rest := []) ⟨hx, hb, hml, hown, hts⟩ (k_X2_stampOf l hl0 D cI cJ cZ cS B0 H a_now_orders a_now_orders_customer a_now_orders_product a_now_orders_open a_now_orders_due a_now_orders_life a_now_orders_byDue a_now_orders_had a_now_orders_stamps c_now_orders_count c_now_orders_gifts c_now_orders_stamps n1 n7 r13 hc14) (cwV 2 hts (gV tb_870 tb_859 tb_860 tb_5 tb_861) rfl rfl rfl (by decide +kernel) ⟨Nat.le_of_ble_eq_true rfl, Nat.le_of_ble_eq_true rfl⟩) ⟨rp_blind, va_recv hK hP (ci := 1) (q0 := 8) rfl rfl, rp_pre (hP.sub [8, 10] rfl) hK (hBn _ _ hS) (hEn _ _ hS)⟩ rfl rfl hl.1 rfl (lv_room (Nat.le_of_ble_eq_true rfl)) dX7_placesForReturn_145 ⟨Nat.le_of_ble_eq_true rfl, Nat.le_of_ble_eq_true rfl⟩) ?_
        refine lv_istore (lv' := [(5, .int r13), (4, .int (n4 - n8)), (0, .ref a0), (1, .int n1), (3, .int n3), (6, .int n6), (7, .int n7), (8, .int n8)]) hx hb dX7_placesForReturn_148 hl (by decide) rfl (fun ls hl => ?_)
        refine lv_iinc (v := (n6 + 1)) (lv' := [(6, .int (n6 + 1)), (5, .int r13), (4, .int (n4 - n8)), (0, .ref a0), (1, .int n1), (3, .int n3), (7, .int n7), (8, .int n8)]) hx hb dX7_placesForReturn_150 hl (k := 5) rfl rfl (by decide) rfl (fun ls hl => ?_)
        refine lv_goto (tgt := 13) hx hb dX7_placesForReturn_153 (by decide) ?_
        obtain rfl := Option.some.inj hf
        exact (hWW _).mp (ih _ _ _ _ _ _ hlp K0 K1 ls (lv_sub hl [3, 4, 5, 2, 1, 0] rfl))
      refine (hWW _).mpr ?_
      refine lv_iload hx hb dX7_placesForReturn_13 (lv_at hl 5 rfl) ?_
      refine lv_bipush (v := 24) hx hb dX7_placesForReturn_15 (by decide) ?_
      refine lv_icmp_ge (tgt := 156) hx hb dX7_placesForReturn_17 (by decide) (fun h1 => ?_) (fun h1 => ?_)
      · have hf := ipos h1 hf
        obtain rfl := Option.some.inj hf
        cases lpx_r hlp
        exact (hWW _).mp (K1 _ rfl ls (lv_sub hl [2] rfl))
      · have hf := ineg h1 hf
        refine lv_iload hx hb dX7_placesForReturn_20 (lv_at hl 3 rfl) ?_
        refine lv_if_le (tgt := 156) hx hb dX7_placesForReturn_22 (by decide) (fun h2 => ?_) (fun h2 => ?_)
        · have hf := ipos h2 hf
          obtain rfl := Option.some.inj hf
          cases lpx_r hlp
          exact (hWW _).mp (K1 _ rfl ls (lv_sub hl [2] rfl))
        · have hf := ineg h2 hf
          refine lv_aload_n hx hb dX7_placesForReturn_25 rfl (lv_at hl 0 rfl) ?_
          refine va_get (D := D) (ci := 6) (v := .ref a_now) (C := RX7) (T := TX7) (N := 8) hx hb hts (fun w h => mb (iX7 w h)) hown hK hP 0 rfl rfl 0 (by decide) (hts _ (mb tb_270)) (fun _ h9 => h9) rfl dX7_placesForReturn_26 ?_
          refine va_get (D := D) (ci := 5) (v := .ref a_now_orders) (C := RX6) (T := TX6) (N := 9) hx hb hts (fun w h => mb (iX6 w h)) hown hK hP 1 rfl rfl 8 (by decide) (hts _ (mb tb_173)) (fun _ h9 => h9) rfl dX7_placesForReturn_29 ?_
          refine lv_iload_n hx hb dX7_placesForReturn_32 rfl (lv_at hl 1 rfl) ?_
          refine lv_iload hx hb dX7_placesForReturn_33 (lv_at hl 4 rfl) ?_
          obtain ⟨r3, hc4, hf⟩ := ob1 hf
          refine ro_calli (r := r3) (va_runV (As := [.int n1, .int n5]) (rest := []) ⟨hx, hb, hml, hown, hts⟩ (k_X2_latestLot l hl0 D cI cJ cZ cS B0 H a_now_orders a_now_orders_customer a_now_orders_product a_now_orders_open a_now_orders_due a_now_orders_life a_now_orders_byDue a_now_orders_had a_now_orders_stamps c_now_orders_count c_now_orders_gifts c_now_orders_had c_now_orders_stamps n1 n5 r3 hc4) (cwV 2 hts (gV tb_854 tb_855 tb_856 tb_5 tb_857) rfl rfl rfl (by decide +kernel) ⟨Nat.le_of_ble_eq_true rfl, Nat.le_of_ble_eq_true rfl⟩) ⟨rp_blind, va_recv hK hP (ci := 1) (q0 := 8) rfl rfl, rp_pre (hP.sub [8, 9, 10] rfl) hK (hBn _ _ hS) (hEn _ _ hS)⟩ rfl rfl hl.1 rfl (lv_room (Nat.le_of_ble_eq_true rfl)) dX7_placesForReturn_35 ⟨Nat.le_of_ble_eq_true rfl, Nat.le_of_ble_eq_true rfl⟩) ?_
          refine lv_istore (lv' := [(7, .int r3), (0, .ref a0), (1, .int n1), (3, .int n3), (4, .int n4), (5, .int n5), (6, .int n6)]) hx hb dX7_placesForReturn_38 hl (by decide) rfl (fun ls hl => ?_)
          refine lv_aload_n hx hb dX7_placesForReturn_40 rfl (lv_at hl 1 rfl) ?_
          refine va_get (D := D) (ci := 6) (v := .ref a_now) (C := RX7) (T := TX7) (N := 8) hx hb hts (fun w h => mb (iX7 w h)) hown hK hP 0 rfl rfl 0 (by decide) (hts _ (mb tb_270)) (fun _ h9 => h9) rfl dX7_placesForReturn_41 ?_
          refine va_get (D := D) (ci := 5) (v := .ref a_now_lots) (C := RX6) (T := TX6) (N := 9) hx hb hts (fun w h => mb (iX6 w h)) hown hK hP 1 rfl rfl 7 (by decide) (hts _ (mb tb_171)) (fun _ h9 => h9) rfl dX7_placesForReturn_44 ?_
          refine lv_iload hx hb dX7_placesForReturn_47 (lv_at hl 0 rfl) ?_
          obtain ⟨r5, hc6, hf⟩ := ob1 hf
          refine ro_calli (r := r5) (va_runV (As := [.int r3]) (rest := []) ⟨hx, hb, hml, hown, hts⟩ (k_X1_exists l hl0 D cI cJ cZ cS B0 H a_now_lots a_now_lots_product a_now_lots_last a_now_lots_cost a_now_lots_state a_now_lots_byLast c_now_lots_count r3 r5 hc6) (cwV 1 hts (gV tb_702 tb_364 tb_365 tb_4 tb_366) rfl rfl rfl (by decide +kernel) ⟨Nat.le_of_ble_eq_true rfl, Nat.le_of_ble_eq_true rfl⟩) ⟨rp_blind, va_recv hK hP (ci := 0) (q0 := 5) rfl rfl, rp_pre (hP.sub [5] rfl) hK (hBn _ _ hS) (hEn _ _ hS)⟩ rfl rfl hl.1 rfl (lv_room (Nat.le_of_ble_eq_true rfl)) dX7_placesForReturn_49 ⟨Nat.le_of_ble_eq_true rfl, Nat.le_of_ble_eq_true rfl⟩) ?_
          refine lv_if_ne (tgt := 58) hx hb dX7_placesForReturn_52 (by decide) (fun h7 => ?_) (fun h7 => ?_)
          · have hf := ineg h7 hf
            refine lv_iload hx hb dX7_placesForReturn_58 (lv_at hl 4 rfl) ?_
            refine lv_aload_n hx hb dX7_placesForReturn_60 rfl (lv_at hl 1 rfl) ?_
            refine va_get (D := D) (ci := 6) (v := .ref a_now) (C := RX7) (T := TX7) (N := 8) hx hb hts (fun w h => mb (iX7 w h)) hown hK hP 0 rfl rfl 0 (by decide) (hts _ (mb tb_270)) (fun _ h9 => h9) rfl dX7_placesForReturn_61 ?_
            refine va_get (D := D) (ci := 5) (v := .ref a_now_orders) (C := RX6) (T := TX6) (N := 9) hx hb hts (fun w h => mb (iX6 w h)) hown hK hP 1 rfl rfl 8 (by decide) (hts _ (mb tb_173)) (fun _ h9 => h9) rfl dX7_placesForReturn_64 ?_
            refine lv_iload_n hx hb dX7_placesForReturn_67 rfl (lv_at hl 2 rfl) ?_
            refine lv_iload hx hb dX7_placesForReturn_68 (lv_at hl 0 rfl) ?_
            obtain ⟨r8, hc9, hf⟩ := ob1 hf
            refine ro_calli (r := r8) (va_runV (As := [.int n1, .int r3]) (rest := [.int n4]) ⟨hx, hb, hml, hown, hts⟩ (k_X2_piecesOf l hl0 D cI cJ cZ cS B0 H a_now_orders a_now_orders_customer a_now_orders_product a_now_orders_open a_now_orders_due a_now_orders_life a_now_orders_byDue a_now_orders_had a_now_orders_stamps c_now_orders_count c_now_orders_gifts c_now_orders_had n1 r3 r8 hc9) (cwV 2 hts (gV tb_747 tb_414 tb_415 tb_5 tb_416) rfl rfl rfl (by decide +kernel) ⟨Nat.le_of_ble_eq_true rfl, Nat.le_of_ble_eq_true rfl⟩) ⟨rp_blind, va_recv hK hP (ci := 1) (q0 := 8) rfl rfl, rp_pre (hP.sub [8, 9] rfl) hK (hBn _ _ hS) (hEn _ _ hS)⟩ rfl rfl hl.1 rfl (lv_room (Nat.le_of_ble_eq_true rfl)) dX7_placesForReturn_70 ⟨Nat.le_of_ble_eq_true rfl, Nat.le_of_ble_eq_true rfl⟩) ?_
            refine va_mmin hx hb (hml.trans hl.1.symm) hown (hts _ (mb tb_341)) (hts _ (mb tb_252)) (hts _ (mb tb_8)) (hts _ (mb wm_min)) (Nat.le_of_ble_eq_true rfl) (Nat.le_of_ble_eq_true rfl) (Nat.zero_le _) (Nat.zero_le _) dX7_placesForReturn_73 ?_
            refine lv_istore (lv' := [(8, .int (if r8 < n4 then r8 else n4)), (7, .int r3), (0, .ref a0), (1, .int n1), (3, .int n3), (4, .int n4), (5, .int n5), (6, .int n6)]) hx hb dX7_placesForReturn_76 hl (by decide) rfl (fun ls hl => ?_)
            refine lv_aload_n hx hb dX7_placesForReturn_78 rfl (lv_at hl 2 rfl) ?_
            refine va_get (D := D) (ci := 6) (v := .ref a_now) (C := RX7) (T := TX7) (N := 8) hx hb hts (fun w h => mb (iX7 w h)) hown hK hP 0 rfl rfl 0 (by decide) (hts _ (mb tb_270)) (fun _ h9 => h9) rfl dX7_placesForReturn_79 ?_
            refine va_get (D := D) (ci := 5) (v := .ref a_now_lots) (C := RX6) (T := TX6) (N := 9) hx hb hts (fun w h => mb (iX6 w h)) hown hK hP 1 rfl rfl 7 (by decide) (hts _ (mb tb_171)) (fun _ h9 => h9) rfl dX7_placesForReturn_82 ?_
            refine lv_iload hx hb dX7_placesForReturn_85 (lv_at hl 1 rfl) ?_
            refine lv_aload_n hx hb dX7_placesForReturn_87 rfl (lv_at hl 2 rfl) ?_
            refine va_get (D := D) (ci := 6) (v := .ref a_now) (C := RX7) (T := TX7) (N := 8) hx hb hts (fun w h => mb (iX7 w h)) hown hK hP 0 rfl rfl 0 (by decide) (hts _ (mb tb_270)) (fun _ h9 => h9) rfl dX7_placesForReturn_88 ?_
            refine va_get (D := D) (ci := 5) (v := .int c_now_today) (C := RX6) (T := TX6) (N := 9) hx hb hts (fun w h => mb (iX6 w h)) hown hK hP 1 rfl rfl 0 (by decide) (hts _ (mb tb_157)) (fun _ h9 => h9) rfl dX7_placesForReturn_91 ?_
            obtain ⟨r10, hc11, hf⟩ := ob1 hf
            refine ro_calli (r := r10) (va_runV (As := [.int r3, .int c_now_today]) (rest := []) ⟨hx, hb, hml, hown, hts⟩ (k_X1_isWaste l hl0 D cI cJ cZ cS B0 H a_now_lots a_now_lots_product a_now_lots_last a_now_lots_cost a_now_lots_state a_now_lots_byLast c_now_lots_count c_now_lots_last c_now_lots_state r3 c_now_today r10 hc11) (cwV 2 hts (gV tb_862 tb_863 tb_864 tb_4 tb_865) rfl rfl rfl (by decide +kernel) ⟨Nat.le_of_ble_eq_true rfl, Nat.le_of_ble_eq_true rfl⟩) ⟨rp_blind, va_recv hK hP (ci := 0) (q0 := 5) rfl rfl, rp_pre (hP.sub [5, 6, 7] rfl) hK (hBn _ _ hS) (hEn _ _ hS)⟩ rfl rfl hl.1 rfl (lv_room (Nat.le_of_ble_eq_true rfl)) dX7_placesForReturn_94 ⟨Nat.le_of_ble_eq_true rfl, Nat.le_of_ble_eq_true rfl⟩) ?_
            refine lv_if_ne (tgt := 128) hx hb dX7_placesForReturn_97 (by decide) (fun h12 => ?_) (fun h12 => ?_)
            · have hf := ineg h12 hf
              exact (hWW _).mp (hJ128 _ _ _ _ _ hf ls (lv_sub hl [2, 3, 4, 5, 7, 1, 0] rfl))
            · have hf := ipos h12 hf
              refine lv_iload_n hx hb dX7_placesForReturn_100 rfl (lv_at hl 4 rfl) ?_
              refine lv_aload_n hx hb dX7_placesForReturn_101 rfl (lv_at hl 2 rfl) ?_
              refine va_get (D := D) (ci := 6) (v := .ref a_now) (C := RX7) (T := TX7) (N := 8) hx hb hts (fun w h => mb (iX7 w h)) hown hK hP 0 rfl rfl 0 (by decide) (hts _ (mb tb_270)) (fun _ h9 => h9) rfl dX7_placesForReturn_102 ?_
              refine va_get (D := D) (ci := 5) (v := .ref a_now_shelves) (C := RX6) (T := TX6) (N := 9) hx hb hts (fun w h => mb (iX6 w h)) hown hK hP 1 rfl rfl 6 (by decide) (hts _ (mb tb_169)) (fun _ h9 => h9) rfl dX7_placesForReturn_105 ?_
              refine lv_iload hx hb dX7_placesForReturn_108 (lv_at hl 0 rfl) ?_
              refine lv_aload_n hx hb dX7_placesForReturn_110 rfl (lv_at hl 2 rfl) ?_
              refine va_get (D := D) (ci := 6) (v := .ref a_now) (C := RX7) (T := TX7) (N := 8) hx hb hts (fun w h => mb (iX7 w h)) hown hK hP 0 rfl rfl 0 (by decide) (hts _ (mb tb_270)) (fun _ h9 => h9) rfl dX7_placesForReturn_111 ?_
              refine va_get (D := D) (ci := 5) (v := .ref a_now_shelves) (C := RX6) (T := TX6) (N := 9) hx hb hts (fun w h => mb (iX6 w h)) hown hK hP 1 rfl rfl 6 (by decide) (hts _ (mb tb_169)) (fun _ h9 => h9) rfl dX7_placesForReturn_114 ?_
              refine lv_iload hx hb dX7_placesForReturn_117 (lv_at hl 1 rfl) ?_
              obtain ⟨r15, hc16, hf⟩ := ob1 hf
              refine ro_calli (r := r15) (va_runV (As := [.int r3]) (rest := [.int (if r8 < n4 then r8 else n4), .ref a_now_shelves, .int n3]) ⟨hx, hb, hml, hown, hts⟩ (k_X5_roomBeside l hl0 D cI cJ cZ cS B0 H a_now_shelves a_now_shelves_lot a_now_shelves_pieces a_now_shelves_mark a_now_shelves_byDistance c_now_shelves_lanes c_now_shelves_positions c_now_shelves_room c_now_shelves_gap c_now_shelves_places c_now_shelves_picked c_now_shelves_lot c_now_shelves_pieces r3 r15 hc16) (cwV 1 hts (gV tb_866 tb_867 tb_868 tb_3 tb_869) rfl rfl rfl (by decide +kernel) ⟨Nat.le_of_ble_eq_true rfl, Nat.le_of_ble_eq_true rfl⟩) ⟨rp_blind, va_recv hK hP (ci := 4) (q0 := 2) rfl rfl, rp_pre (hP.sub [2, 3, 4] rfl) hK (hBn _ _ hS) (hEn _ _ hS)⟩ rfl rfl hl.1 rfl (lv_room (Nat.le_of_ble_eq_true rfl)) dX7_placesForReturn_119 ⟨Nat.le_of_ble_eq_true rfl, Nat.le_of_ble_eq_true rfl⟩) ?_
              refine lv_isub hx hb dX7_placesForReturn_122 ?_
              obtain ⟨r17, hc18, hf⟩ := ob1 hf
              refine ro_calli (r := r17) (va_runV (As := [.int ((if r8 < n4 then r8 else n4) - r15)]) (rest := [.int n3]) ⟨hx, hb, hml, hown, hts⟩ (k_X5_placesFor l hl0 D cI cJ cZ cS B0 H a_now_shelves a_now_shelves_lot a_now_shelves_pieces a_now_shelves_mark a_now_shelves_byDistance c_now_shelves_lanes c_now_shelves_positions c_now_shelves_room c_now_shelves_gap c_now_shelves_places c_now_shelves_picked ((if r8 < n4 then r8 else n4) - r15) r17 hc18) (cwV 1 hts (gV tb_667 tb_668 tb_669 tb_3 tb_670) rfl rfl rfl (by decide +kernel) ⟨Nat.le_of_ble_eq_true rfl, Nat.le_of_ble_eq_true rfl⟩) ⟨rp_blind, va_recv hK hP (ci := 4) (q0 := 2) rfl rfl, rp_pre (hP.sub [2] rfl) hK (hBn _ _ hS) (hEn _ _ hS)⟩ rfl rfl hl.1 rfl (lv_room (Nat.le_of_ble_eq_true rfl)) dX7_placesForReturn_123 ⟨Nat.le_of_ble_eq_true rfl, Nat.le_of_ble_eq_true rfl⟩) ?_
              refine lv_iadd hx hb dX7_placesForReturn_126 ?_
              refine lv_istore_n (lv' := [(3, .int (n3 + r17)), (8, .int (if r8 < n4 then r8 else n4)), (7, .int r3), (0, .ref a0), (1, .int n1), (4, .int n4), (5, .int n5), (6, .int n6)]) hx hb dX7_placesForReturn_127 rfl hl (by decide) rfl (fun ls hl => ?_)
              exact (hWW _).mp (hJ128 _ _ _ _ _ hf ls (lv_sub hl [3, 4, 0, 5, 7, 2, 1] rfl))
          · have hf := ipos h7 hf
            obtain rfl := Option.some.inj hf
            cases lpx_r hlp
            exact (hWW _).mp (K0 _ rfl ls (lv_sub hl [3] rfl))
  refine (hWW _).mpr ?_
  refine lv_iconst (v := 0) hx hb dX7_placesForReturn_0 (by decide) ?_
  refine lv_istore_n (lv' := [(3, .int 0), (0, .ref a0), (1, .int v1), (2, .int v2)]) hx hb dX7_placesForReturn_1 rfl hl (by decide) rfl (fun ls hl => ?_)
  refine lv_iload_n hx hb dX7_placesForReturn_2 rfl (lv_at hl 3 rfl) ?_
  refine lv_istore (lv' := [(4, .int v2), (3, .int 0), (0, .ref a0), (1, .int v1), (2, .int v2)]) hx hb dX7_placesForReturn_3 hl (by decide) rfl (fun ls hl => ?_)
  refine lv_ldcw hx hb hown (hts _ (mb tb_853)) dX7_placesForReturn_5 ?_
  refine lv_istore (lv' := [(5, .int 2147483647), (4, .int v2), (3, .int 0), (0, .ref a0), (1, .int v1), (2, .int v2)]) hx hb dX7_placesForReturn_8 hl (by decide) rfl (fun ls hl => ?_)
  refine lv_iconst (v := 0) hx hb dX7_placesForReturn_10 (by decide) ?_
  refine lv_istore (lv' := [(6, .int 0), (5, .int 2147483647), (4, .int v2), (3, .int 0), (0, .ref a0), (1, .int v1), (2, .int v2)]) hx hb dX7_placesForReturn_11 hl (by decide) rfl (fun ls hl => ?_)
  obtain ⟨e20, hc19, hf⟩ := ob1 hf
  refine (hWW _).mp (hL13 fu _ _ _ _ _ _ hc19 ?_ ?_ ls (lv_sub hl [4, 5, 3, 2, 1, 0] rfl))
  · intro m21 hz ls hl
    subst hz
    have hf := sel_0_2 hf
    refine (hWW _).mpr ?_
    refine lv_goto (tgt := 156) hx hb dX7_placesForReturn_55 (by decide) ?_
    refine lv_iload_n hx hb dX7_placesForReturn_156 rfl (lv_at hl 0 rfl) ?_
    cases hf
    exact W.iret hx hb hr (fun t ht hW => ⟨⟨_, (), rfl, rfl, (ht.trans hHe)⟩, hS.F ht⟩) hS.2.2 dX7_placesForReturn_157
  · intro m22 hz ls hl
    subst hz
    have hf := sel_1_2 hf
    refine (hWW _).mpr ?_
    refine lv_iload_n hx hb dX7_placesForReturn_156 rfl (lv_at hl 0 rfl) ?_
    cases hf
    exact W.iret hx hb hr (fun t ht hW => ⟨⟨_, (), rfl, rfl, (ht.trans hHe)⟩, hS.F ht⟩) hS.2.2 dX7_placesForReturn_157
def f_X7_takeBack_L8_J158 (n1 : Int32) (n3 : Int32) (n4 : Int32) (n5 : Int32) (c_now_today : Int32) (c_now_shelves_room : Int32) (c_now_shelves_places : Int32) (c_now_shelves_lot : Nat → Int32) (c_now_shelves_pieces : Nat → Int32) (c_now_shelves_mark : Nat → Int32) (c_now_shelves_byDistance : Nat → Int32) (c_now_lots_count : Int32) (c_now_lots_last : Nat → Int32) (c_now_lots_state : Nat → Int32) (c_now_orders_count : Int32) (c_now_orders_had : Nat → Int32) (c_now_orders_stamps : Nat → Int32) : Option ((Int32 × Int32 × Int32 × (Nat → Int32) × (Nat → Int32) × (Nat → Int32) × (Nat → Int32)) ⊕ ((Int32 × (Nat → Int32) × (Nat → Int32) × (Nat → Int32) × (Nat → Int32)) ⊕ (Int32 × (Nat → Int32) × (Nat → Int32) × (Nat → Int32) × (Nat → Int32)))) :=
  some (.inl (n3, n4, n5 + 1, c_now_shelves_lot, c_now_shelves_pieces, c_now_shelves_mark, c_now_orders_had))
def f_X7_takeBack_L8 (n1 : Int32) (c_now_today : Int32) (c_now_shelves_room : Int32) (c_now_shelves_places : Int32) (c_now_shelves_byDistance : Nat → Int32) (c_now_lots_count : Int32) (c_now_lots_last : Nat → Int32) (c_now_lots_state : Nat → Int32) (c_now_orders_count : Int32) (c_now_orders_stamps : Nat → Int32) (n3 : Int32) (n4 : Int32) (n5 : Int32) (c_now_shelves_lot : Nat → Int32) (c_now_shelves_pieces : Nat → Int32) (c_now_shelves_mark : Nat → Int32) (c_now_orders_had : Nat → Int32) : Option ((Int32 × Int32 × Int32 × (Nat → Int32) × (Nat → Int32) × (Nat → Int32) × (Nat → Int32)) ⊕ ((Int32 × (Nat → Int32) × (Nat → Int32) × (Nat → Int32) × (Nat → Int32)) ⊕ (Int32 × (Nat → Int32) × (Nat → Int32) × (Nat → Int32) × (Nat → Int32)))) :=
  (if 24 ≤ n5 then some (.inr (.inr (n3, c_now_shelves_lot, c_now_shelves_pieces, c_now_shelves_mark, c_now_orders_had)))
  else (if n4 ≤ 0 then some (.inr (.inr (n3, c_now_shelves_lot, c_now_shelves_pieces, c_now_shelves_mark, c_now_orders_had)))
  else bnd1 (f_X2_latestLot n1 2147483647 c_now_orders_count c_now_orders_had c_now_orders_stamps) (fun r3 =>
  (bnd1 (f_X1_exists r3 c_now_lots_count) (fun r5 =>
  ((if r5 = 0 then some (.inr (.inl (n3, c_now_shelves_lot, c_now_shelves_pieces, c_now_shelves_mark, c_now_orders_had)))
  else bnd1 (f_X2_piecesOf n1 r3 c_now_orders_count c_now_orders_had) (fun r8 =>
  (bnd1 (f_X2_takeBack n1 r3 (if r8 < n4 then r8 else n4) c_now_orders_count c_now_orders_had) (fun o12 =>
  (bnd1 (f_X1_isWaste r3 c_now_today c_now_lots_count c_now_lots_last c_now_lots_state) (fun r13 =>
  ((if r13 = 0 then bnd4 (f_X5_putBeside r3 (if r8 < n4 then r8 else n4) 3 c_now_shelves_room c_now_shelves_places c_now_shelves_lot c_now_shelves_pieces c_now_shelves_mark c_now_shelves_byDistance) (fun r16 o18 o19 o20 =>
  (bnd3 (f_X5_putAway r3 r16 3 c_now_shelves_room c_now_shelves_places o18 o19 o20 c_now_shelves_byDistance) (fun o23 o24 o25 =>
  (f_X7_takeBack_L8_J158 n1 n3 (n4 - (if r8 < n4 then r8 else n4)) n5 c_now_today c_now_shelves_room c_now_shelves_places o23 o24 o25 c_now_shelves_byDistance c_now_lots_count c_now_lots_last c_now_lots_state c_now_orders_count o12 c_now_orders_stamps))))
  else f_X7_takeBack_L8_J158 n1 (n3 + (if r8 < n4 then r8 else n4)) (n4 - (if r8 < n4 then r8 else n4)) n5 c_now_today c_now_shelves_room c_now_shelves_places c_now_shelves_lot c_now_shelves_pieces c_now_shelves_mark c_now_shelves_byDistance c_now_lots_count c_now_lots_last c_now_lots_state c_now_orders_count o12 c_now_orders_stamps))))))))))))))
def f_X7_takeBack (v1 : Int32) (v2 : Int32) (c_now_today : Int32) (c_now_shelves_room : Int32) (c_now_shelves_places : Int32) (c_now_shelves_lot : Nat → Int32) (c_now_shelves_pieces : Nat → Int32) (c_now_shelves_mark : Nat → Int32) (c_now_shelves_byDistance : Nat → Int32) (c_now_lots_count : Int32) (c_now_lots_last : Nat → Int32) (c_now_lots_state : Nat → Int32) (c_now_orders_count : Int32) (c_now_orders_had : Nat → Int32) (c_now_orders_stamps : Nat → Int32) : Option (Int32 × (Nat → Int32) × (Nat → Int32) × (Nat → Int32) × (Nat → Int32)) :=
  (bnd1 (loop (fun z => f_X7_takeBack_L8 v1 c_now_today c_now_shelves_room c_now_shelves_places c_now_shelves_byDistance c_now_lots_count c_now_lots_last c_now_lots_state c_now_orders_count c_now_orders_stamps z.1 z.2.1 z.2.2.1 z.2.2.2.1 z.2.2.2.2.1 z.2.2.2.2.2.1 z.2.2.2.2.2.2) fu (0, v2, 0, c_now_shelves_lot, c_now_shelves_pieces, c_now_shelves_mark, c_now_orders_had)) fun e27 =>
  (sel (fun z => (fun m28 c29 c30 c31 c32 => some (m28, c29, c30, c31, c32)) z.1 z.2.1 z.2.2.1 z.2.2.2.1 z.2.2.2.2) (fun z => (fun m33 c34 c35 c36 c37 => some (m33, c34, c35, c36, c37)) z.1 z.2.1 z.2.2.1 z.2.2.2.1 z.2.2.2.2)) e27)
set_option maxHeartbeats 4000000 in
set_option maxRecDepth 100000 in
theorem k_X7_takeBack (l : Launch) (hl0 : l.stackTraces = false) (D : va_G) (cI cJ cZ cS : ClassId) (B0 : Nat) (sz : Nat) (a0 a_now a_past a_plan a_picker a_rest a_packed a_now_items a_now_books a_now_terms a_now_shelves a_now_lots a_now_orders a_now_shelves_lot a_now_shelves_pieces a_now_shelves_mark a_now_shelves_byDistance a_now_lots_product a_now_lots_last a_now_lots_cost a_now_lots_state a_now_lots_byLast a_now_orders_customer a_now_orders_product a_now_orders_open a_now_orders_due a_now_orders_life a_now_orders_byDue a_now_orders_had a_now_orders_stamps : Nat) (c_acts : Int32) (c_nextSlot : Int32) (c_now_today : Int32) (c_now_products : Int32) (c_now_itemCount : Int32) (c_now_shelves_lanes : Int32) (c_now_shelves_positions : Int32) (c_now_shelves_room : Int32) (c_now_shelves_gap : Int32) (c_now_shelves_places : Int32) (c_now_shelves_picked : Int64) (c_now_shelves_lot : Nat → Int32) (c_now_shelves_pieces : Nat → Int32) (c_now_shelves_mark : Nat → Int32) (c_now_shelves_byDistance : Nat → Int32) (c_now_lots_count : Int32) (c_now_lots_last : Nat → Int32) (c_now_lots_state : Nat → Int32) (c_now_orders_count : Int32) (c_now_orders_gifts : Int32) (c_now_orders_had : Nat → Int32) (c_now_orders_stamps : Nat → Int32) (v1 : Int32) (v2 : Int32) (r9 : Int32) (oc_now_shelves_lot : Nat → Int32) (oc_now_shelves_pieces : Nat → Int32) (oc_now_shelves_mark : Nat → Int32) (oc_now_orders_had : Nat → Int32)  (hf : f_X7_takeBack v1 v2 c_now_today c_now_shelves_room c_now_shelves_places c_now_shelves_lot c_now_shelves_pieces c_now_shelves_mark c_now_shelves_byDistance c_now_lots_count c_now_lots_last c_now_lots_state c_now_orders_count c_now_orders_had c_now_orders_stamps = some (r9, oc_now_shelves_lot, oc_now_shelves_pieces, oc_now_shelves_mark, oc_now_orders_had)) : Met l yX7_takeBack (wz yX7_takeBack cX7_takeBack 9 (some .int)) ({ frames := 4, cells := 0, slots := 0, locals := 90 }) (va_Pc [.ref a0, .int v1, .int v2] (wp D cI cJ cZ cS B0 [oX7 a0 a_now a_past c_acts c_nextSlot a_plan a_picker a_rest a_packed, oX6 a_now c_now_today c_now_products c_now_itemCount a_now_items a_now_books a_now_terms a_now_shelves a_now_lots a_now_orders, oX5 a_now_shelves c_now_shelves_lanes c_now_shelves_positions c_now_shelves_room c_now_shelves_gap c_now_shelves_places c_now_shelves_picked a_now_shelves_lot a_now_shelves_pieces a_now_shelves_mark a_now_shelves_byDistance, rI cI a_now_shelves_lot 48 c_now_shelves_lot, rI cI a_now_shelves_pieces 48 c_now_shelves_pieces, rI cI a_now_shelves_mark 48 c_now_shelves_mark, rI cI a_now_shelves_byDistance 48 c_now_shelves_byDistance, oX1 a_now_lots c_now_lots_count a_now_lots_product a_now_lots_last a_now_lots_cost a_now_lots_state a_now_lots_byLast, rI cI a_now_lots_last 24 c_now_lots_last, rI cI a_now_lots_state 24 c_now_lots_state, oX2 a_now_orders c_now_orders_count c_now_orders_gifts a_now_orders_customer a_now_orders_product a_now_orders_open a_now_orders_due a_now_orders_life a_now_orders_byDue a_now_orders_had a_now_orders_stamps, rI cI a_now_orders_had 960 c_now_orders_had, rI cI a_now_orders_stamps 960 c_now_orders_stamps] sz)) (va_Qi (fun (r2 : Int32) (_ : Unit) => r2 = r9) (fun _ t => va_P D vwCl [oX7 a0 a_now a_past c_acts c_nextSlot a_plan a_picker a_rest a_packed, oX6 a_now c_now_today c_now_products c_now_itemCount a_now_items a_now_books a_now_terms a_now_shelves a_now_lots a_now_orders, oX5 a_now_shelves c_now_shelves_lanes c_now_shelves_positions c_now_shelves_room c_now_shelves_gap c_now_shelves_places c_now_shelves_picked a_now_shelves_lot a_now_shelves_pieces a_now_shelves_mark a_now_shelves_byDistance, rI cI a_now_shelves_lot 48 oc_now_shelves_lot, rI cI a_now_shelves_pieces 48 oc_now_shelves_pieces, rI cI a_now_shelves_mark 48 oc_now_shelves_mark, rI cI a_now_shelves_byDistance 48 c_now_shelves_byDistance, oX1 a_now_lots c_now_lots_count a_now_lots_product a_now_lots_last a_now_lots_cost a_now_lots_state a_now_lots_byLast, rI cI a_now_lots_last 24 c_now_lots_last, rI cI a_now_lots_state 24 c_now_lots_state, oX2 a_now_orders c_now_orders_count c_now_orders_gifts a_now_orders_customer a_now_orders_product a_now_orders_open a_now_orders_due a_now_orders_life a_now_orders_byDue a_now_orders_had a_now_orders_stamps, rI cI a_now_orders_had 960 oc_now_orders_had, rI cI a_now_orders_stamps 960 c_now_orders_stamps] t.heap) (va_A [oX7 a0 a_now a_past c_acts c_nextSlot a_plan a_picker a_rest a_packed, oX6 a_now c_now_today c_now_products c_now_itemCount a_now_items a_now_books a_now_terms a_now_shelves a_now_lots a_now_orders, oX5 a_now_shelves c_now_shelves_lanes c_now_shelves_positions c_now_shelves_room c_now_shelves_gap c_now_shelves_places c_now_shelves_picked a_now_shelves_lot a_now_shelves_pieces a_now_shelves_mark a_now_shelves_byDistance, rI cI a_now_shelves_lot 48 c_now_shelves_lot, rI cI a_now_shelves_pieces 48 c_now_shelves_pieces, rI cI a_now_shelves_mark 48 c_now_shelves_mark, rI cI a_now_shelves_byDistance 48 c_now_shelves_byDistance, oX1 a_now_lots c_now_lots_count a_now_lots_product a_now_lots_last a_now_lots_cost a_now_lots_state a_now_lots_byLast, rI cI a_now_lots_last 24 c_now_lots_last, rI cI a_now_lots_state 24 c_now_lots_state, oX2 a_now_orders c_now_orders_count c_now_orders_gifts a_now_orders_customer a_now_orders_product a_now_orders_open a_now_orders_due a_now_orders_life a_now_orders_byDue a_now_orders_had a_now_orders_stamps, rI cI a_now_orders_had 960 c_now_orders_had, rI cI a_now_orders_stamps 960 c_now_orders_stamps] sz)) 0 0 (va_A [oX7 a0 a_now a_past c_acts c_nextSlot a_plan a_picker a_rest a_packed, oX6 a_now c_now_today c_now_products c_now_itemCount a_now_items a_now_books a_now_terms a_now_shelves a_now_lots a_now_orders, oX5 a_now_shelves c_now_shelves_lanes c_now_shelves_positions c_now_shelves_room c_now_shelves_gap c_now_shelves_places c_now_shelves_picked a_now_shelves_lot a_now_shelves_pieces a_now_shelves_mark a_now_shelves_byDistance, rI cI a_now_shelves_lot 48 c_now_shelves_lot, rI cI a_now_shelves_pieces 48 c_now_shelves_pieces, rI cI a_now_shelves_mark 48 c_now_shelves_mark, rI cI a_now_shelves_byDistance 48 c_now_shelves_byDistance, oX1 a_now_lots c_now_lots_count a_now_lots_product a_now_lots_last a_now_lots_cost a_now_lots_state a_now_lots_byLast, rI cI a_now_lots_last 24 c_now_lots_last, rI cI a_now_lots_state 24 c_now_lots_state, oX2 a_now_orders c_now_orders_count c_now_orders_gifts a_now_orders_customer a_now_orders_product a_now_orders_open a_now_orders_due a_now_orders_life a_now_orders_byDue a_now_orders_had a_now_orders_stamps, rI cI a_now_orders_had 960 c_now_orders_had, rI cI a_now_orders_stamps 960 c_now_orders_stamps] sz) := by
  refine Met.ofW (cc := cX7_takeBack) (maxL := 9) (ret := (some .int)) (by decide) rfl ?_
  intro p e s m args below meth c s₁ B hml hv
  obtain ⟨rfl, hsz, hP, hK, hD0, hB0, hE⟩ := hv
  subst hsz
  have hx := B.exec
  have hb := B.bytes
  have hr := B.returns
  have hts := atoms_spec (ws := (wz yX7_takeBack cX7_takeBack 9 (some .int))) B.pre
  have hown : s.vm.findClass RX7 = some m.cls := findClass_of_methodNamed B.named
  have hlocks := B.notSynchronized
  have hD := hD0.self (sz := s.heap.size)
  have hAB : ∀ q : Nat, va_A [oX7 a0 a_now a_past c_acts c_nextSlot a_plan a_picker a_rest a_packed, oX6 a_now c_now_today c_now_products c_now_itemCount a_now_items a_now_books a_now_terms a_now_shelves a_now_lots a_now_orders, oX5 a_now_shelves c_now_shelves_lanes c_now_shelves_positions c_now_shelves_room c_now_shelves_gap c_now_shelves_places c_now_shelves_picked a_now_shelves_lot a_now_shelves_pieces a_now_shelves_mark a_now_shelves_byDistance, rI cI a_now_shelves_lot 48 c_now_shelves_lot, rI cI a_now_shelves_pieces 48 c_now_shelves_pieces, rI cI a_now_shelves_mark 48 c_now_shelves_mark, rI cI a_now_shelves_byDistance 48 c_now_shelves_byDistance, oX1 a_now_lots c_now_lots_count a_now_lots_product a_now_lots_last a_now_lots_cost a_now_lots_state a_now_lots_byLast, rI cI a_now_lots_last 24 c_now_lots_last, rI cI a_now_lots_state 24 c_now_lots_state, oX2 a_now_orders c_now_orders_count c_now_orders_gifts a_now_orders_customer a_now_orders_product a_now_orders_open a_now_orders_due a_now_orders_life a_now_orders_byDue a_now_orders_had a_now_orders_stamps, rI cI a_now_orders_had 960 c_now_orders_had, rI cI a_now_orders_stamps 960 c_now_orders_stamps] s.heap.size q → B0 ≤ q := va_A_B hD0 hB0
  generalize hAe : va_A [oX7 a0 a_now a_past c_acts c_nextSlot a_plan a_picker a_rest a_packed, oX6 a_now c_now_today c_now_products c_now_itemCount a_now_items a_now_books a_now_terms a_now_shelves a_now_lots a_now_orders, oX5 a_now_shelves c_now_shelves_lanes c_now_shelves_positions c_now_shelves_room c_now_shelves_gap c_now_shelves_places c_now_shelves_picked a_now_shelves_lot a_now_shelves_pieces a_now_shelves_mark a_now_shelves_byDistance, rI cI a_now_shelves_lot 48 c_now_shelves_lot, rI cI a_now_shelves_pieces 48 c_now_shelves_pieces, rI cI a_now_shelves_mark 48 c_now_shelves_mark, rI cI a_now_shelves_byDistance 48 c_now_shelves_byDistance, oX1 a_now_lots c_now_lots_count a_now_lots_product a_now_lots_last a_now_lots_cost a_now_lots_state a_now_lots_byLast, rI cI a_now_lots_last 24 c_now_lots_last, rI cI a_now_lots_state 24 c_now_lots_state, oX2 a_now_orders c_now_orders_count c_now_orders_gifts a_now_orders_customer a_now_orders_product a_now_orders_open a_now_orders_due a_now_orders_life a_now_orders_byDue a_now_orders_had a_now_orders_stamps, rI cI a_now_orders_had 960 c_now_orders_had, rI cI a_now_orders_stamps 960 c_now_orders_stamps] s.heap.size = A at hD hAB ⊢
  have hA : ∀ q : Nat, s.heap.size ≤ q → A q := fun q h => by rw [← hAe]; exact Or.inr h
  have hFa := hA
  have hS : va_S A s.heap s.heap [] := va_S.rf
  have hBn := fun (H : Heap) (locs : List Loc) (h : va_S A s.heap H locs) => Nat.le_trans hB0 h.1
  have hEn := fun (H : Heap) (locs : List Loc) (h : va_S A s.heap H locs) => gE_now hE h hAB
  have hl := lv_entry ([.ref a0, .int v1, .int v2]) (n := 9) (Nat.le_of_ble_eq_true rfl)
  rw [lg_entry_eq]
  generalize (lg_sl ([.ref a0, .int v1, .int v2]) ++ List.replicate (9 - (lg_sl ([.ref a0, .int v1, .int v2])).length) Slot.unset).toArray = ls at hl ⊢
  have hl : lv_has ls 9 [(0, .ref a0), (1, .int v1), (2, .int v2)] := hl
  obtain ⟨H, hHe⟩ : ∃ H : Heap, H = s.heap := ⟨_, rfl⟩
  have hP : va_P D vwCl [oX7 a0 a_now a_past c_acts c_nextSlot a_plan a_picker a_rest a_packed, oX6 a_now c_now_today c_now_products c_now_itemCount a_now_items a_now_books a_now_terms a_now_shelves a_now_lots a_now_orders, oX5 a_now_shelves c_now_shelves_lanes c_now_shelves_positions c_now_shelves_room c_now_shelves_gap c_now_shelves_places c_now_shelves_picked a_now_shelves_lot a_now_shelves_pieces a_now_shelves_mark a_now_shelves_byDistance, rI cI a_now_shelves_lot 48 c_now_shelves_lot, rI cI a_now_shelves_pieces 48 c_now_shelves_pieces, rI cI a_now_shelves_mark 48 c_now_shelves_mark, rI cI a_now_shelves_byDistance 48 c_now_shelves_byDistance, oX1 a_now_lots c_now_lots_count a_now_lots_product a_now_lots_last a_now_lots_cost a_now_lots_state a_now_lots_byLast, rI cI a_now_lots_last 24 c_now_lots_last, rI cI a_now_lots_state 24 c_now_lots_state, oX2 a_now_orders c_now_orders_count c_now_orders_gifts a_now_orders_customer a_now_orders_product a_now_orders_open a_now_orders_due a_now_orders_life a_now_orders_byDue a_now_orders_had a_now_orders_stamps, rI cI a_now_orders_had 960 c_now_orders_had, rI cI a_now_orders_stamps 960 c_now_orders_stamps] H := by rw [hHe]; exact hP
  have hS : va_S A s.heap H [] := by rw [hHe]; exact hS
  refine W_heq hHe ?_
  unfold f_X7_takeBack at hf
  refine gen_goW (fun WW hWW => ?_)
  have hL8 : ∀ (n : Nat) (n1 : Int32) (n3 : Int32) (n4 : Int32) (n5 : Int32) (c_now_shelves_lot : Nat → Int32) (c_now_shelves_pieces : Nat → Int32) (c_now_shelves_mark : Nat → Int32) (c_now_orders_had : Nat → Int32) (e9 : ((Int32 × (Nat → Int32) × (Nat → Int32) × (Nat → Int32) × (Nat → Int32)) ⊕ (Int32 × (Nat → Int32) × (Nat → Int32) × (Nat → Int32) × (Nat → Int32)))), loop (fun z => f_X7_takeBack_L8 n1 c_now_today c_now_shelves_room c_now_shelves_places c_now_shelves_byDistance c_now_lots_count c_now_lots_last c_now_lots_state c_now_orders_count c_now_orders_stamps z.1 z.2.1 z.2.2.1 z.2.2.2.1 z.2.2.2.2.1 z.2.2.2.2.2.1 z.2.2.2.2.2.2) n (n3, n4, n5, c_now_shelves_lot, c_now_shelves_pieces, c_now_shelves_mark, c_now_orders_had) = some e9 → (∀ (e3 : Int32) (e_c_now_shelves_lot : Nat → Int32) (e_c_now_shelves_pieces : Nat → Int32) (e_c_now_shelves_mark : Nat → Int32) (e_c_now_orders_had : Nat → Int32), e9 = (.inl (e3, e_c_now_shelves_lot, e_c_now_shelves_pieces, e_c_now_shelves_mark, e_c_now_orders_had)) → ∀ (H : Heap) (locs : List Loc) (ls : Array Slot), va_P D vwCl [oX7 a0 a_now a_past c_acts c_nextSlot a_plan a_picker a_rest a_packed, oX6 a_now c_now_today c_now_products c_now_itemCount a_now_items a_now_books a_now_terms a_now_shelves a_now_lots a_now_orders, oX5 a_now_shelves c_now_shelves_lanes c_now_shelves_positions c_now_shelves_room c_now_shelves_gap c_now_shelves_places c_now_shelves_picked a_now_shelves_lot a_now_shelves_pieces a_now_shelves_mark a_now_shelves_byDistance, rI cI a_now_shelves_lot 48 e_c_now_shelves_lot, rI cI a_now_shelves_pieces 48 e_c_now_shelves_pieces, rI cI a_now_shelves_mark 48 e_c_now_shelves_mark, rI cI a_now_shelves_byDistance 48 c_now_shelves_byDistance, oX1 a_now_lots c_now_lots_count a_now_lots_product a_now_lots_last a_now_lots_cost a_now_lots_state a_now_lots_byLast, rI cI a_now_lots_last 24 c_now_lots_last, rI cI a_now_lots_state 24 c_now_lots_state, oX2 a_now_orders c_now_orders_count c_now_orders_gifts a_now_orders_customer a_now_orders_product a_now_orders_open a_now_orders_due a_now_orders_life a_now_orders_byDue a_now_orders_had a_now_orders_stamps, rI cI a_now_orders_had 960 e_c_now_orders_had, rI cI a_now_orders_stamps 960 c_now_orders_stamps] H → va_D A [oX7 a0 a_now a_past c_acts c_nextSlot a_plan a_picker a_rest a_packed, oX6 a_now c_now_today c_now_products c_now_itemCount a_now_items a_now_books a_now_terms a_now_shelves a_now_lots a_now_orders, oX5 a_now_shelves c_now_shelves_lanes c_now_shelves_positions c_now_shelves_room c_now_shelves_gap c_now_shelves_places c_now_shelves_picked a_now_shelves_lot a_now_shelves_pieces a_now_shelves_mark a_now_shelves_byDistance, rI cI a_now_shelves_lot 48 e_c_now_shelves_lot, rI cI a_now_shelves_pieces 48 e_c_now_shelves_pieces, rI cI a_now_shelves_mark 48 e_c_now_shelves_mark, rI cI a_now_shelves_byDistance 48 c_now_shelves_byDistance, oX1 a_now_lots c_now_lots_count a_now_lots_product a_now_lots_last a_now_lots_cost a_now_lots_state a_now_lots_byLast, rI cI a_now_lots_last 24 c_now_lots_last, rI cI a_now_lots_state 24 c_now_lots_state, oX2 a_now_orders c_now_orders_count c_now_orders_gifts a_now_orders_customer a_now_orders_product a_now_orders_open a_now_orders_due a_now_orders_life a_now_orders_byDue a_now_orders_had a_now_orders_stamps, rI cI a_now_orders_had 960 e_c_now_orders_had, rI cI a_now_orders_stamps 960 c_now_orders_stamps] → va_S A s.heap H locs → lv_has ls 9 [(3, .int e3)] → WW H locs 0 0 (F0 m 51 ls [])) → (∀ (e3 : Int32) (e_c_now_shelves_lot : Nat → Int32) (e_c_now_shelves_pieces : Nat → Int32) (e_c_now_shelves_mark : Nat → Int32) (e_c_now_orders_had : Nat → Int32), e9 = (.inr (e3, e_c_now_shelves_lot, e_c_now_shelves_pieces, e_c_now_shelves_mark, e_c_now_orders_had)) → ∀ (H : Heap) (locs : List Loc) (ls : Array Slot), va_P D vwCl [oX7 a0 a_now a_past c_acts c_nextSlot a_plan a_picker a_rest a_packed, oX6 a_now c_now_today c_now_products c_now_itemCount a_now_items a_now_books a_now_terms a_now_shelves a_now_lots a_now_orders, oX5 a_now_shelves c_now_shelves_lanes c_now_shelves_positions c_now_shelves_room c_now_shelves_gap c_now_shelves_places c_now_shelves_picked a_now_shelves_lot a_now_shelves_pieces a_now_shelves_mark a_now_shelves_byDistance, rI cI a_now_shelves_lot 48 e_c_now_shelves_lot, rI cI a_now_shelves_pieces 48 e_c_now_shelves_pieces, rI cI a_now_shelves_mark 48 e_c_now_shelves_mark, rI cI a_now_shelves_byDistance 48 c_now_shelves_byDistance, oX1 a_now_lots c_now_lots_count a_now_lots_product a_now_lots_last a_now_lots_cost a_now_lots_state a_now_lots_byLast, rI cI a_now_lots_last 24 c_now_lots_last, rI cI a_now_lots_state 24 c_now_lots_state, oX2 a_now_orders c_now_orders_count c_now_orders_gifts a_now_orders_customer a_now_orders_product a_now_orders_open a_now_orders_due a_now_orders_life a_now_orders_byDue a_now_orders_had a_now_orders_stamps, rI cI a_now_orders_had 960 e_c_now_orders_had, rI cI a_now_orders_stamps 960 c_now_orders_stamps] H → va_D A [oX7 a0 a_now a_past c_acts c_nextSlot a_plan a_picker a_rest a_packed, oX6 a_now c_now_today c_now_products c_now_itemCount a_now_items a_now_books a_now_terms a_now_shelves a_now_lots a_now_orders, oX5 a_now_shelves c_now_shelves_lanes c_now_shelves_positions c_now_shelves_room c_now_shelves_gap c_now_shelves_places c_now_shelves_picked a_now_shelves_lot a_now_shelves_pieces a_now_shelves_mark a_now_shelves_byDistance, rI cI a_now_shelves_lot 48 e_c_now_shelves_lot, rI cI a_now_shelves_pieces 48 e_c_now_shelves_pieces, rI cI a_now_shelves_mark 48 e_c_now_shelves_mark, rI cI a_now_shelves_byDistance 48 c_now_shelves_byDistance, oX1 a_now_lots c_now_lots_count a_now_lots_product a_now_lots_last a_now_lots_cost a_now_lots_state a_now_lots_byLast, rI cI a_now_lots_last 24 c_now_lots_last, rI cI a_now_lots_state 24 c_now_lots_state, oX2 a_now_orders c_now_orders_count c_now_orders_gifts a_now_orders_customer a_now_orders_product a_now_orders_open a_now_orders_due a_now_orders_life a_now_orders_byDue a_now_orders_had a_now_orders_stamps, rI cI a_now_orders_had 960 e_c_now_orders_had, rI cI a_now_orders_stamps 960 c_now_orders_stamps] → va_S A s.heap H locs → lv_has ls 9 [(3, .int e3)] → WW H locs 0 0 (F0 m 164 ls [])) → ∀ (H : Heap) (locs : List Loc) (ls : Array Slot), va_P D vwCl [oX7 a0 a_now a_past c_acts c_nextSlot a_plan a_picker a_rest a_packed, oX6 a_now c_now_today c_now_products c_now_itemCount a_now_items a_now_books a_now_terms a_now_shelves a_now_lots a_now_orders, oX5 a_now_shelves c_now_shelves_lanes c_now_shelves_positions c_now_shelves_room c_now_shelves_gap c_now_shelves_places c_now_shelves_picked a_now_shelves_lot a_now_shelves_pieces a_now_shelves_mark a_now_shelves_byDistance, rI cI a_now_shelves_lot 48 c_now_shelves_lot, rI cI a_now_shelves_pieces 48 c_now_shelves_pieces, rI cI a_now_shelves_mark 48 c_now_shelves_mark, rI cI a_now_shelves_byDistance 48 c_now_shelves_byDistance, oX1 a_now_lots c_now_lots_count a_now_lots_product a_now_lots_last a_now_lots_cost a_now_lots_state a_now_lots_byLast, rI cI a_now_lots_last 24 c_now_lots_last, rI cI a_now_lots_state 24 c_now_lots_state, oX2 a_now_orders c_now_orders_count c_now_orders_gifts a_now_orders_customer a_now_orders_product a_now_orders_open a_now_orders_due a_now_orders_life a_now_orders_byDue a_now_orders_had a_now_orders_stamps, rI cI a_now_orders_had 960 c_now_orders_had, rI cI a_now_orders_stamps 960 c_now_orders_stamps] H → va_D A [oX7 a0 a_now a_past c_acts c_nextSlot a_plan a_picker a_rest a_packed, oX6 a_now c_now_today c_now_products c_now_itemCount a_now_items a_now_books a_now_terms a_now_shelves a_now_lots a_now_orders, oX5 a_now_shelves c_now_shelves_lanes c_now_shelves_positions c_now_shelves_room c_now_shelves_gap c_now_shelves_places c_now_shelves_picked a_now_shelves_lot a_now_shelves_pieces a_now_shelves_mark a_now_shelves_byDistance, rI cI a_now_shelves_lot 48 c_now_shelves_lot, rI cI a_now_shelves_pieces 48 c_now_shelves_pieces, rI cI a_now_shelves_mark 48 c_now_shelves_mark, rI cI a_now_shelves_byDistance 48 c_now_shelves_byDistance, oX1 a_now_lots c_now_lots_count a_now_lots_product a_now_lots_last a_now_lots_cost a_now_lots_state a_now_lots_byLast, rI cI a_now_lots_last 24 c_now_lots_last, rI cI a_now_lots_state 24 c_now_lots_state, oX2 a_now_orders c_now_orders_count c_now_orders_gifts a_now_orders_customer a_now_orders_product a_now_orders_open a_now_orders_due a_now_orders_life a_now_orders_byDue a_now_orders_had a_now_orders_stamps, rI cI a_now_orders_had 960 c_now_orders_had, rI cI a_now_orders_stamps 960 c_now_orders_stamps] → va_S A s.heap H locs → lv_has ls 9 [(0, .ref a0), (1, .int n1), (3, .int n3), (4, .int n4), (5, .int n5)] → WW H locs 0 0 (F0 m 8 ls []) := by
    intro n
    induction n with
    | zero =>
      intro n1 n3 n4 n5 c_now_shelves_lot c_now_shelves_pieces c_now_shelves_mark c_now_orders_had e9 hlp
      exact absurd hlp (by simp [loop])
    | succ n ih =>
      intro n1 n3 n4 n5 c_now_shelves_lot c_now_shelves_pieces c_now_shelves_mark c_now_orders_had e9 hlp K0 K1 H locs ls hP hD hS hl
      obtain ⟨x9, hf, hlp⟩ := loop_s hlp
      have hf : f_X7_takeBack_L8 n1 c_now_today c_now_shelves_room c_now_shelves_places c_now_shelves_byDistance c_now_lots_count c_now_lots_last c_now_lots_state c_now_orders_count c_now_orders_stamps n3 n4 n5 c_now_shelves_lot c_now_shelves_pieces c_now_shelves_mark c_now_orders_had = some x9 := hf
      unfold f_X7_takeBack_L8 at hf
      have hJ158 : ∀ (n3 : Int32) (n4 : Int32) (n5 : Int32) (c_now_shelves_lot : Nat → Int32) (c_now_shelves_pieces : Nat → Int32) (c_now_shelves_mark : Nat → Int32) (c_now_orders_had : Nat → Int32), f_X7_takeBack_L8_J158 n1 n3 n4 n5 c_now_today c_now_shelves_room c_now_shelves_places c_now_shelves_lot c_now_shelves_pieces c_now_shelves_mark c_now_shelves_byDistance c_now_lots_count c_now_lots_last c_now_lots_state c_now_orders_count c_now_orders_had c_now_orders_stamps = some x9 → ∀ (H : Heap) (locs : List Loc) (ls : Array Slot), va_P D vwCl [oX7 a0 a_now a_past c_acts c_nextSlot a_plan a_picker a_rest a_packed, oX6 a_now c_now_today c_now_products c_now_itemCount a_now_items a_now_books a_now_terms a_now_shelves a_now_lots a_now_orders, oX5 a_now_shelves c_now_shelves_lanes c_now_shelves_positions c_now_shelves_room c_now_shelves_gap c_now_shelves_places c_now_shelves_picked a_now_shelves_lot a_now_shelves_pieces a_now_shelves_mark a_now_shelves_byDistance, rI cI a_now_shelves_lot 48 c_now_shelves_lot, rI cI a_now_shelves_pieces 48 c_now_shelves_pieces, rI cI a_now_shelves_mark 48 c_now_shelves_mark, rI cI a_now_shelves_byDistance 48 c_now_shelves_byDistance, oX1 a_now_lots c_now_lots_count a_now_lots_product a_now_lots_last a_now_lots_cost a_now_lots_state a_now_lots_byLast, rI cI a_now_lots_last 24 c_now_lots_last, rI cI a_now_lots_state 24 c_now_lots_state, oX2 a_now_orders c_now_orders_count c_now_orders_gifts a_now_orders_customer a_now_orders_product a_now_orders_open a_now_orders_due a_now_orders_life a_now_orders_byDue a_now_orders_had a_now_orders_stamps, rI cI a_now_orders_had 960 c_now_orders_had, rI cI a_now_orders_stamps 960 c_now_orders_stamps] H → va_D A [oX7 a0 a_now a_past c_acts c_nextSlot a_plan a_picker a_rest a_packed, oX6 a_now c_now_today c_now_products c_now_itemCount a_now_items a_now_books a_now_terms a_now_shelves a_now_lots a_now_orders, oX5 a_now_shelves c_now_shelves_lanes c_now_shelves_positions c_now_shelves_room c_now_shelves_gap c_now_shelves_places c_now_shelves_picked a_now_shelves_lot a_now_shelves_pieces a_now_shelves_mark a_now_shelves_byDistance, rI cI a_now_shelves_lot 48 c_now_shelves_lot, rI cI a_now_shelves_pieces 48 c_now_shelves_pieces, rI cI a_now_shelves_mark 48 c_now_shelves_mark, rI cI a_now_shelves_byDistance 48 c_now_shelves_byDistance, oX1 a_now_lots c_now_lots_count a_now_lots_product a_now_lots_last a_now_lots_cost a_now_lots_state a_now_lots_byLast, rI cI a_now_lots_last 24 c_now_lots_last, rI cI a_now_lots_state 24 c_now_lots_state, oX2 a_now_orders c_now_orders_count c_now_orders_gifts a_now_orders_customer a_now_orders_product a_now_orders_open a_now_orders_due a_now_orders_life a_now_orders_byDue a_now_orders_had a_now_orders_stamps, rI cI a_now_orders_had 960 c_now_orders_had, rI cI a_now_orders_stamps 960 c_now_orders_stamps] → va_S A s.heap H locs → lv_has ls 9 [(0, .ref a0), (1, .int n1), (3, .int n3), (4, .int n4), (5, .int n5)] → WW H locs 0 0 (F0 m 158 ls []) := by
        intro n3 n4 n5 c_now_shelves_lot c_now_shelves_pieces c_now_shelves_mark c_now_orders_had hf H locs ls hP hD hS hl
        unfold f_X7_takeBack_L8_J158 at hf
        refine (hWW _ _ _ _ _).mpr ?_
        refine lv_iinc (v := (n5 + 1)) (lv' := [(5, .int (n5 + 1)), (0, .ref a0), (1, .int n1), (3, .int n3), (4, .int n4)]) hx hb dX7_takeBack_158 hl (k := 4) rfl rfl (by decide) rfl (fun ls hl => ?_)
        refine lv_goto (tgt := 8) hx hb dX7_takeBack_161 (by decide) ?_
        obtain rfl := Option.some.inj hf
        exact (hWW _ _ _ _ _).mp (ih _ _ _ _ _ _ _ _ _ hlp K0 K1 _ _ ls hP hD hS (lv_sub hl [1, 2, 3, 4, 0] rfl))
      refine (hWW _ _ _ _ _).mpr ?_
      refine lv_iload hx hb dX7_takeBack_8 (lv_at hl 4 rfl) ?_
      refine lv_bipush (v := 24) hx hb dX7_takeBack_10 (by decide) ?_
      refine lv_icmp_ge (tgt := 164) hx hb dX7_takeBack_12 (by decide) (fun h1 => ?_) (fun h1 => ?_)
      · have hf := ipos h1 hf
        obtain rfl := Option.some.inj hf
        cases lpx_r hlp
        exact (hWW _ _ _ _ _).mp (K1 _ _ _ _ _ rfl _ _ ls hP hD hS (lv_sub hl [2] rfl))
      · have hf := ineg h1 hf
        refine lv_iload hx hb dX7_takeBack_15 (lv_at hl 3 rfl) ?_
        refine lv_if_le (tgt := 164) hx hb dX7_takeBack_17 (by decide) (fun h2 => ?_) (fun h2 => ?_)
        · have hf := ipos h2 hf
          obtain rfl := Option.some.inj hf
          cases lpx_r hlp
          exact (hWW _ _ _ _ _).mp (K1 _ _ _ _ _ rfl _ _ ls hP hD hS (lv_sub hl [2] rfl))
        · have hf := ineg h2 hf
          refine lv_aload_n hx hb dX7_takeBack_20 rfl (lv_at hl 0 rfl) ?_
          refine va_get (D := D) (ci := 6) (v := .ref a_now) (C := RX7) (T := TX7) (N := 8) hx hb hts (fun w h => mb (iX7 w h)) hown hK hP 0 rfl rfl 0 (by decide) (hts _ (mb tb_270)) (fun _ h9 => h9) rfl dX7_takeBack_21 ?_
          refine va_get (D := D) (ci := 5) (v := .ref a_now_orders) (C := RX6) (T := TX6) (N := 9) hx hb hts (fun w h => mb (iX6 w h)) hown hK hP 1 rfl rfl 8 (by decide) (hts _ (mb tb_173)) (fun _ h9 => h9) rfl dX7_takeBack_24 ?_
          refine lv_iload_n hx hb dX7_takeBack_27 rfl (lv_at hl 1 rfl) ?_
          refine lv_ldcw hx hb hown (hts _ (mb tb_853)) dX7_takeBack_28 ?_
          obtain ⟨r3, hc4, hf⟩ := ob1 hf
          refine ro_calli (r := r3) (va_runV (As := [.int n1, .int 2147483647]) (rest := []) ⟨hx, hb, hml, hown, hts⟩ (k_X2_latestLot l hl0 D cI cJ cZ cS B0 H a_now_orders a_now_orders_customer a_now_orders_product a_now_orders_open a_now_orders_due a_now_orders_life a_now_orders_byDue a_now_orders_had a_now_orders_stamps c_now_orders_count c_now_orders_gifts c_now_orders_had c_now_orders_stamps n1 2147483647 r3 hc4) (cwV 2 hts (gV tb_854 tb_855 tb_856 tb_5 tb_857) rfl rfl rfl (by decide +kernel) ⟨Nat.le_of_ble_eq_true rfl, Nat.le_of_ble_eq_true rfl⟩) ⟨rp_blind, va_recv hK hP (ci := 1) (q0 := 10) rfl rfl, rp_pre (hP.sub [10, 11, 12] rfl) hK (hBn _ _ hS) (hEn _ _ hS)⟩ rfl rfl hl.1 rfl (lv_room (Nat.le_of_ble_eq_true rfl)) dX7_takeBack_31 ⟨Nat.le_of_ble_eq_true rfl, Nat.le_of_ble_eq_true rfl⟩) ?_
          refine lv_istore (lv' := [(6, .int r3), (0, .ref a0), (1, .int n1), (3, .int n3), (4, .int n4), (5, .int n5)]) hx hb dX7_takeBack_34 hl (by decide) rfl (fun ls hl => ?_)
          refine lv_aload_n hx hb dX7_takeBack_36 rfl (lv_at hl 1 rfl) ?_
          refine va_get (D := D) (ci := 6) (v := .ref a_now) (C := RX7) (T := TX7) (N := 8) hx hb hts (fun w h => mb (iX7 w h)) hown hK hP 0 rfl rfl 0 (by decide) (hts _ (mb tb_270)) (fun _ h9 => h9) rfl dX7_takeBack_37 ?_
          refine va_get (D := D) (ci := 5) (v := .ref a_now_lots) (C := RX6) (T := TX6) (N := 9) hx hb hts (fun w h => mb (iX6 w h)) hown hK hP 1 rfl rfl 7 (by decide) (hts _ (mb tb_171)) (fun _ h9 => h9) rfl dX7_takeBack_40 ?_
          refine lv_iload hx hb dX7_takeBack_43 (lv_at hl 0 rfl) ?_
          obtain ⟨r5, hc6, hf⟩ := ob1 hf
          refine ro_calli (r := r5) (va_runV (As := [.int r3]) (rest := []) ⟨hx, hb, hml, hown, hts⟩ (k_X1_exists l hl0 D cI cJ cZ cS B0 H a_now_lots a_now_lots_product a_now_lots_last a_now_lots_cost a_now_lots_state a_now_lots_byLast c_now_lots_count r3 r5 hc6) (cwV 1 hts (gV tb_702 tb_364 tb_365 tb_4 tb_366) rfl rfl rfl (by decide +kernel) ⟨Nat.le_of_ble_eq_true rfl, Nat.le_of_ble_eq_true rfl⟩) ⟨rp_blind, va_recv hK hP (ci := 0) (q0 := 7) rfl rfl, rp_pre (hP.sub [7] rfl) hK (hBn _ _ hS) (hEn _ _ hS)⟩ rfl rfl hl.1 rfl (lv_room (Nat.le_of_ble_eq_true rfl)) dX7_takeBack_45 ⟨Nat.le_of_ble_eq_true rfl, Nat.le_of_ble_eq_true rfl⟩) ?_
          refine lv_if_ne (tgt := 54) hx hb dX7_takeBack_48 (by decide) (fun h7 => ?_) (fun h7 => ?_)
          · have hf := ineg h7 hf
            refine lv_iload hx hb dX7_takeBack_54 (lv_at hl 4 rfl) ?_
            refine lv_aload_n hx hb dX7_takeBack_56 rfl (lv_at hl 1 rfl) ?_
            refine va_get (D := D) (ci := 6) (v := .ref a_now) (C := RX7) (T := TX7) (N := 8) hx hb hts (fun w h => mb (iX7 w h)) hown hK hP 0 rfl rfl 0 (by decide) (hts _ (mb tb_270)) (fun _ h9 => h9) rfl dX7_takeBack_57 ?_
            refine va_get (D := D) (ci := 5) (v := .ref a_now_orders) (C := RX6) (T := TX6) (N := 9) hx hb hts (fun w h => mb (iX6 w h)) hown hK hP 1 rfl rfl 8 (by decide) (hts _ (mb tb_173)) (fun _ h9 => h9) rfl dX7_takeBack_60 ?_
            refine lv_iload_n hx hb dX7_takeBack_63 rfl (lv_at hl 2 rfl) ?_
            refine lv_iload hx hb dX7_takeBack_64 (lv_at hl 0 rfl) ?_
            obtain ⟨r8, hc9, hf⟩ := ob1 hf
            refine ro_calli (r := r8) (va_runV (As := [.int n1, .int r3]) (rest := [.int n4]) ⟨hx, hb, hml, hown, hts⟩ (k_X2_piecesOf l hl0 D cI cJ cZ cS B0 H a_now_orders a_now_orders_customer a_now_orders_product a_now_orders_open a_now_orders_due a_now_orders_life a_now_orders_byDue a_now_orders_had a_now_orders_stamps c_now_orders_count c_now_orders_gifts c_now_orders_had n1 r3 r8 hc9) (cwV 2 hts (gV tb_747 tb_414 tb_415 tb_5 tb_416) rfl rfl rfl (by decide +kernel) ⟨Nat.le_of_ble_eq_true rfl, Nat.le_of_ble_eq_true rfl⟩) ⟨rp_blind, va_recv hK hP (ci := 1) (q0 := 10) rfl rfl, rp_pre (hP.sub [10, 11] rfl) hK (hBn _ _ hS) (hEn _ _ hS)⟩ rfl rfl hl.1 rfl (lv_room (Nat.le_of_ble_eq_true rfl)) dX7_takeBack_66 ⟨Nat.le_of_ble_eq_true rfl, Nat.le_of_ble_eq_true rfl⟩) ?_
            refine va_mmin hx hb (hml.trans hl.1.symm) hown (hts _ (mb tb_341)) (hts _ (mb tb_252)) (hts _ (mb tb_8)) (hts _ (mb wm_min)) (Nat.le_of_ble_eq_true rfl) (Nat.le_of_ble_eq_true rfl) (Nat.zero_le _) (Nat.zero_le _) dX7_takeBack_69 ?_
            refine lv_istore (lv' := [(7, .int (if r8 < n4 then r8 else n4)), (6, .int r3), (0, .ref a0), (1, .int n1), (3, .int n3), (4, .int n4), (5, .int n5)]) hx hb dX7_takeBack_72 hl (by decide) rfl (fun ls hl => ?_)
            refine lv_aload_n hx hb dX7_takeBack_74 rfl (lv_at hl 2 rfl) ?_
            refine va_get (D := D) (ci := 6) (v := .ref a_now) (C := RX7) (T := TX7) (N := 8) hx hb hts (fun w h => mb (iX7 w h)) hown hK hP 0 rfl rfl 0 (by decide) (hts _ (mb tb_270)) (fun _ h9 => h9) rfl dX7_takeBack_75 ?_
            refine va_get (D := D) (ci := 5) (v := .ref a_now_orders) (C := RX6) (T := TX6) (N := 9) hx hb hts (fun w h => mb (iX6 w h)) hown hK hP 1 rfl rfl 8 (by decide) (hts _ (mb tb_173)) (fun _ h9 => h9) rfl dX7_takeBack_78 ?_
            refine lv_iload_n hx hb dX7_takeBack_81 rfl (lv_at hl 3 rfl) ?_
            refine lv_iload hx hb dX7_takeBack_82 (lv_at hl 1 rfl) ?_
            refine lv_iload hx hb dX7_takeBack_84 (lv_at hl 0 rfl) ?_
            obtain ⟨o12, hc11, hf⟩ := ob1 hf
            refine rw_callv (va_runV (As := [.int n1, .int r3, .int (if r8 < n4 then r8 else n4)]) (rest := []) ⟨hx, hb, hml, hown, hts⟩ (k_X2_takeBack l hl0 D cI cJ cZ cS B0 H.size a_now_orders a_now_orders_customer a_now_orders_product a_now_orders_open a_now_orders_due a_now_orders_life a_now_orders_byDue a_now_orders_had a_now_orders_stamps c_now_orders_count c_now_orders_gifts c_now_orders_had n1 r3 (if r8 < n4 then r8 else n4) o12 hc11) (cwV 3 hts (gV tb_875 tb_876 tb_877 tb_5 tb_878) rfl rfl rfl (by decide +kernel) ⟨Nat.le_of_ble_eq_true rfl, Nat.le_of_ble_eq_true rfl⟩) ⟨wp_blind, va_recv hK hP (ci := 1) (q0 := 10) rfl rfl, wp_pre (hP.sub [10, 11] rfl) hK (va_D.sub (hD.weaken (fun _ _ _ h9 => hAB _ h9)) [10, 11] rfl rfl) (hBn _ _ hS) (hEn _ _ hS)⟩ rfl rfl hl.1 rfl (lv_room (Nat.le_of_ble_eq_true rfl)) dX7_takeBack_86 ⟨Nat.le_of_ble_eq_true rfl, Nat.le_of_ble_eq_true rfl⟩) hP hD hS hA [oX7 a0 a_now a_past c_acts c_nextSlot a_plan a_picker a_rest a_packed, oX6 a_now c_now_today c_now_products c_now_itemCount a_now_items a_now_books a_now_terms a_now_shelves a_now_lots a_now_orders, oX5 a_now_shelves c_now_shelves_lanes c_now_shelves_positions c_now_shelves_room c_now_shelves_gap c_now_shelves_places c_now_shelves_picked a_now_shelves_lot a_now_shelves_pieces a_now_shelves_mark a_now_shelves_byDistance, rI cI a_now_shelves_lot 48 c_now_shelves_lot, rI cI a_now_shelves_pieces 48 c_now_shelves_pieces, rI cI a_now_shelves_mark 48 c_now_shelves_mark, rI cI a_now_shelves_byDistance 48 c_now_shelves_byDistance, oX1 a_now_lots c_now_lots_count a_now_lots_product a_now_lots_last a_now_lots_cost a_now_lots_state a_now_lots_byLast, rI cI a_now_lots_last 24 c_now_lots_last, rI cI a_now_lots_state 24 c_now_lots_state, oX2 a_now_orders c_now_orders_count c_now_orders_gifts a_now_orders_customer a_now_orders_product a_now_orders_open a_now_orders_due a_now_orders_life a_now_orders_byDue a_now_orders_had a_now_orders_stamps, rI cI a_now_orders_had 960 o12, rI cI a_now_orders_stamps 960 c_now_orders_stamps] 13 [10, 11] [0, 1, 2, 3, 4, 5, 6, 7, 8, 9, 12] rfl rfl rfl rfl (by decide +kernel) rfl (fun H locs hP hD hS => ?_)
            refine lv_iload hx hb dX7_takeBack_89 (lv_at hl 5 rfl) ?_
            refine lv_iload hx hb dX7_takeBack_91 (lv_at hl 0 rfl) ?_
            refine lv_isub hx hb dX7_takeBack_93 ?_
            refine lv_istore (lv' := [(4, .int (n4 - (if r8 < n4 then r8 else n4))), (7, .int (if r8 < n4 then r8 else n4)), (6, .int r3), (0, .ref a0), (1, .int n1), (3, .int n3), (5, .int n5)]) hx hb dX7_takeBack_94 hl (by decide) rfl (fun ls hl => ?_)
            refine lv_aload_n hx hb dX7_takeBack_96 rfl (lv_at hl 3 rfl) ?_
            refine va_get (D := D) (ci := 6) (v := .ref a_now) (C := RX7) (T := TX7) (N := 8) hx hb hts (fun w h => mb (iX7 w h)) hown hK hP 0 rfl rfl 0 (by decide) (hts _ (mb tb_270)) (fun _ h9 => h9) rfl dX7_takeBack_97 ?_
            refine va_get (D := D) (ci := 5) (v := .ref a_now_lots) (C := RX6) (T := TX6) (N := 9) hx hb hts (fun w h => mb (iX6 w h)) hown hK hP 1 rfl rfl 7 (by decide) (hts _ (mb tb_171)) (fun _ h9 => h9) rfl dX7_takeBack_100 ?_
            refine lv_iload hx hb dX7_takeBack_103 (lv_at hl 2 rfl) ?_
            refine lv_aload_n hx hb dX7_takeBack_105 rfl (lv_at hl 3 rfl) ?_
            refine va_get (D := D) (ci := 6) (v := .ref a_now) (C := RX7) (T := TX7) (N := 8) hx hb hts (fun w h => mb (iX7 w h)) hown hK hP 0 rfl rfl 0 (by decide) (hts _ (mb tb_270)) (fun _ h9 => h9) rfl dX7_takeBack_106 ?_
            refine va_get (D := D) (ci := 5) (v := .int c_now_today) (C := RX6) (T := TX6) (N := 9) hx hb hts (fun w h => mb (iX6 w h)) hown hK hP 1 rfl rfl 0 (by decide) (hts _ (mb tb_157)) (fun _ h9 => h9) rfl dX7_takeBack_109 ?_
            obtain ⟨r13, hc14, hf⟩ := ob1 hf
            refine ro_calli (r := r13) (va_runV (As := [.int r3, .int c_now_today]) (rest := []) ⟨hx, hb, hml, hown, hts⟩ (k_X1_isWaste l hl0 D cI cJ cZ cS B0 H a_now_lots a_now_lots_product a_now_lots_last a_now_lots_cost a_now_lots_state a_now_lots_byLast c_now_lots_count c_now_lots_last c_now_lots_state r3 c_now_today r13 hc14) (cwV 2 hts (gV tb_862 tb_863 tb_864 tb_4 tb_865) rfl rfl rfl (by decide +kernel) ⟨Nat.le_of_ble_eq_true rfl, Nat.le_of_ble_eq_true rfl⟩) ⟨rp_blind, va_recv hK hP (ci := 0) (q0 := 7) rfl rfl, rp_pre (hP.sub [7, 8, 9] rfl) hK (hBn _ _ hS) (hEn _ _ hS)⟩ rfl rfl hl.1 rfl (lv_room (Nat.le_of_ble_eq_true rfl)) dX7_takeBack_112 ⟨Nat.le_of_ble_eq_true rfl, Nat.le_of_ble_eq_true rfl⟩) ?_
            refine lv_if_eq (tgt := 126) hx hb dX7_takeBack_115 (by decide) (fun h15 => ?_) (fun h15 => ?_)
            · have hf := ipos h15 hf
              refine lv_aload_n hx hb dX7_takeBack_126 rfl (lv_at hl 3 rfl) ?_
              refine va_get (D := D) (ci := 6) (v := .ref a_now) (C := RX7) (T := TX7) (N := 8) hx hb hts (fun w h => mb (iX7 w h)) hown hK hP 0 rfl rfl 0 (by decide) (hts _ (mb tb_270)) (fun _ h9 => h9) rfl dX7_takeBack_127 ?_
              refine va_get (D := D) (ci := 5) (v := .ref a_now_shelves) (C := RX6) (T := TX6) (N := 9) hx hb hts (fun w h => mb (iX6 w h)) hown hK hP 1 rfl rfl 6 (by decide) (hts _ (mb tb_169)) (fun _ h9 => h9) rfl dX7_takeBack_130 ?_
              refine lv_iload hx hb dX7_takeBack_133 (lv_at hl 2 rfl) ?_
              refine lv_iload hx hb dX7_takeBack_135 (lv_at hl 1 rfl) ?_
              refine lv_iconst (v := 3) hx hb dX7_takeBack_137 (by decide) ?_
              obtain ⟨r16, o18, o19, o20, hc17, hf⟩ := ob4 hf
              refine rw_calli (r := r16) (va_runV (As := [.int r3, .int (if r8 < n4 then r8 else n4), .int 3]) (rest := []) ⟨hx, hb, hml, hown, hts⟩ (k_X5_putBeside l hl0 D cI cJ cZ cS B0 H.size a_now_shelves a_now_shelves_lot a_now_shelves_pieces a_now_shelves_mark a_now_shelves_byDistance c_now_shelves_lanes c_now_shelves_positions c_now_shelves_room c_now_shelves_gap c_now_shelves_places c_now_shelves_picked c_now_shelves_lot c_now_shelves_pieces c_now_shelves_mark c_now_shelves_byDistance r3 (if r8 < n4 then r8 else n4) 3 r16 o18 o19 o20 hc17) (cwV 3 hts (gV tb_879 tb_880 tb_881 tb_3 tb_882) rfl rfl rfl (by decide +kernel) ⟨Nat.le_of_ble_eq_true rfl, Nat.le_of_ble_eq_true rfl⟩) ⟨wp_blind, va_recv hK hP (ci := 4) (q0 := 2) rfl rfl, wp_pre (hP.sub [2, 3, 4, 5, 6] rfl) hK (va_D.sub (hD.weaken (fun _ _ _ h9 => hAB _ h9)) [2, 3, 4, 5, 6] rfl rfl) (hBn _ _ hS) (hEn _ _ hS)⟩ rfl rfl hl.1 rfl (lv_room (Nat.le_of_ble_eq_true rfl)) dX7_takeBack_138 ⟨Nat.le_of_ble_eq_true rfl, Nat.le_of_ble_eq_true rfl⟩) hP hD hS hA [oX7 a0 a_now a_past c_acts c_nextSlot a_plan a_picker a_rest a_packed, oX6 a_now c_now_today c_now_products c_now_itemCount a_now_items a_now_books a_now_terms a_now_shelves a_now_lots a_now_orders, oX5 a_now_shelves c_now_shelves_lanes c_now_shelves_positions c_now_shelves_room c_now_shelves_gap c_now_shelves_places c_now_shelves_picked a_now_shelves_lot a_now_shelves_pieces a_now_shelves_mark a_now_shelves_byDistance, rI cI a_now_shelves_lot 48 o18, rI cI a_now_shelves_pieces 48 o19, rI cI a_now_shelves_mark 48 o20, rI cI a_now_shelves_byDistance 48 c_now_shelves_byDistance, oX1 a_now_lots c_now_lots_count a_now_lots_product a_now_lots_last a_now_lots_cost a_now_lots_state a_now_lots_byLast, rI cI a_now_lots_last 24 c_now_lots_last, rI cI a_now_lots_state 24 c_now_lots_state, oX2 a_now_orders c_now_orders_count c_now_orders_gifts a_now_orders_customer a_now_orders_product a_now_orders_open a_now_orders_due a_now_orders_life a_now_orders_byDue a_now_orders_had a_now_orders_stamps, rI cI a_now_orders_had 960 o12, rI cI a_now_orders_stamps 960 c_now_orders_stamps] 13 [2, 3, 4, 5, 6] [0, 1, 7, 8, 9, 10, 11, 12] rfl rfl rfl rfl (by decide +kernel) rfl (fun H locs hP hD hS => ?_)
              refine lv_istore (lv' := [(8, .int r16), (4, .int (n4 - (if r8 < n4 then r8 else n4))), (7, .int (if r8 < n4 then r8 else n4)), (6, .int r3), (0, .ref a0), (1, .int n1), (3, .int n3), (5, .int n5)]) hx hb dX7_takeBack_141 hl (by decide) rfl (fun ls hl => ?_)
              refine lv_aload_n hx hb dX7_takeBack_143 rfl (lv_at hl 4 rfl) ?_
              refine va_get (D := D) (ci := 6) (v := .ref a_now) (C := RX7) (T := TX7) (N := 8) hx hb hts (fun w h => mb (iX7 w h)) hown hK hP 0 rfl rfl 0 (by decide) (hts _ (mb tb_270)) (fun _ h9 => h9) rfl dX7_takeBack_144 ?_
              refine va_get (D := D) (ci := 5) (v := .ref a_now_shelves) (C := RX6) (T := TX6) (N := 9) hx hb hts (fun w h => mb (iX6 w h)) hown hK hP 1 rfl rfl 6 (by decide) (hts _ (mb tb_169)) (fun _ h9 => h9) rfl dX7_takeBack_147 ?_
              refine lv_iload hx hb dX7_takeBack_150 (lv_at hl 3 rfl) ?_
              refine lv_iload hx hb dX7_takeBack_152 (lv_at hl 0 rfl) ?_
              refine lv_iconst (v := 3) hx hb dX7_takeBack_154 (by decide) ?_
              obtain ⟨o23, o24, o25, hc22, hf⟩ := ob3 hf
              refine rw_callv (va_runV (As := [.int r3, .int r16, .int 3]) (rest := []) ⟨hx, hb, hml, hown, hts⟩ (k_X5_putAway l hl0 D cI cJ cZ cS B0 H.size a_now_shelves a_now_shelves_lot a_now_shelves_pieces a_now_shelves_mark a_now_shelves_byDistance c_now_shelves_lanes c_now_shelves_positions c_now_shelves_room c_now_shelves_gap c_now_shelves_places c_now_shelves_picked o18 o19 o20 c_now_shelves_byDistance r3 r16 3 o23 o24 o25 hc22) (cwV 3 hts (gV tb_687 tb_688 tb_689 tb_3 tb_690) rfl rfl rfl (by decide +kernel) ⟨Nat.le_of_ble_eq_true rfl, Nat.le_of_ble_eq_true rfl⟩) ⟨wp_blind, va_recv hK hP (ci := 4) (q0 := 2) rfl rfl, wp_pre (hP.sub [2, 3, 4, 5, 6] rfl) hK (va_D.sub (hD.weaken (fun _ _ _ h9 => hAB _ h9)) [2, 3, 4, 5, 6] rfl rfl) (hBn _ _ hS) (hEn _ _ hS)⟩ rfl rfl hl.1 rfl (lv_room (Nat.le_of_ble_eq_true rfl)) dX7_takeBack_155 ⟨Nat.le_of_ble_eq_true rfl, Nat.le_of_ble_eq_true rfl⟩) hP hD hS hA [oX7 a0 a_now a_past c_acts c_nextSlot a_plan a_picker a_rest a_packed, oX6 a_now c_now_today c_now_products c_now_itemCount a_now_items a_now_books a_now_terms a_now_shelves a_now_lots a_now_orders, oX5 a_now_shelves c_now_shelves_lanes c_now_shelves_positions c_now_shelves_room c_now_shelves_gap c_now_shelves_places c_now_shelves_picked a_now_shelves_lot a_now_shelves_pieces a_now_shelves_mark a_now_shelves_byDistance, rI cI a_now_shelves_lot 48 o23, rI cI a_now_shelves_pieces 48 o24, rI cI a_now_shelves_mark 48 o25, rI cI a_now_shelves_byDistance 48 c_now_shelves_byDistance, oX1 a_now_lots c_now_lots_count a_now_lots_product a_now_lots_last a_now_lots_cost a_now_lots_state a_now_lots_byLast, rI cI a_now_lots_last 24 c_now_lots_last, rI cI a_now_lots_state 24 c_now_lots_state, oX2 a_now_orders c_now_orders_count c_now_orders_gifts a_now_orders_customer a_now_orders_product a_now_orders_open a_now_orders_due a_now_orders_life a_now_orders_byDue a_now_orders_had a_now_orders_stamps, rI cI a_now_orders_had 960 o12, rI cI a_now_orders_stamps 960 c_now_orders_stamps] 13 [2, 3, 4, 5, 6] [0, 1, 7, 8, 9, 10, 11, 12] rfl rfl rfl rfl (by decide +kernel) rfl (fun H locs hP hD hS => ?_)
              exact (hWW _ _ _ _ _).mp (hJ158 _ _ _ _ _ _ _ hf _ _ ls hP hD hS (lv_sub hl [4, 5, 6, 1, 7] rfl))
            · have hf := ineg h15 hf
              refine lv_iload_n hx hb dX7_takeBack_118 rfl (lv_at hl 5 rfl) ?_
              refine lv_iload hx hb dX7_takeBack_119 (lv_at hl 1 rfl) ?_
              refine lv_iadd hx hb dX7_takeBack_121 ?_
              refine lv_istore_n (lv' := [(3, .int (n3 + (if r8 < n4 then r8 else n4))), (4, .int (n4 - (if r8 < n4 then r8 else n4))), (7, .int (if r8 < n4 then r8 else n4)), (6, .int r3), (0, .ref a0), (1, .int n1), (5, .int n5)]) hx hb dX7_takeBack_122 rfl hl (by decide) rfl (fun ls hl => ?_)
              refine lv_goto (tgt := 158) hx hb dX7_takeBack_123 (by decide) ?_
              exact (hWW _ _ _ _ _).mp (hJ158 _ _ _ _ _ _ _ hf _ _ ls hP hD hS (lv_sub hl [4, 5, 0, 1, 6] rfl))
          · have hf := ipos h7 hf
            obtain rfl := Option.some.inj hf
            cases lpx_r hlp
            exact (hWW _ _ _ _ _).mp (K0 _ _ _ _ _ rfl _ _ ls hP hD hS (lv_sub hl [3] rfl))
  refine (hWW _ _ _ _ _).mpr ?_
  refine lv_iconst (v := 0) hx hb dX7_takeBack_0 (by decide) ?_
  refine lv_istore_n (lv' := [(3, .int 0), (0, .ref a0), (1, .int v1), (2, .int v2)]) hx hb dX7_takeBack_1 rfl hl (by decide) rfl (fun ls hl => ?_)
  refine lv_iload_n hx hb dX7_takeBack_2 rfl (lv_at hl 3 rfl) ?_
  refine lv_istore (lv' := [(4, .int v2), (3, .int 0), (0, .ref a0), (1, .int v1), (2, .int v2)]) hx hb dX7_takeBack_3 hl (by decide) rfl (fun ls hl => ?_)
  refine lv_iconst (v := 0) hx hb dX7_takeBack_5 (by decide) ?_
  refine lv_istore (lv' := [(5, .int 0), (4, .int v2), (3, .int 0), (0, .ref a0), (1, .int v1), (2, .int v2)]) hx hb dX7_takeBack_6 hl (by decide) rfl (fun ls hl => ?_)
  obtain ⟨e27, hc26, hf⟩ := ob1 hf
  refine (hWW _ _ _ _ _).mp (hL8 fu _ _ _ _ _ _ _ _ _ hc26 ?_ ?_ _ _ ls hP hD hS (lv_sub hl [3, 4, 2, 1, 0] rfl))
  · intro m28 c29 c30 c31 c32 hz H locs ls hP hD hS hl
    subst hz
    have hf := sel_0_2 hf
    dsimp only at hf
    refine (hWW _ _ _ _ _).mpr ?_
    refine lv_goto (tgt := 164) hx hb dX7_takeBack_51 (by decide) ?_
    refine lv_iload_n hx hb dX7_takeBack_164 rfl (lv_at hl 0 rfl) ?_
    cases hf
    refine W.widen (k := 0) (n := 0) (Nat.le_of_ble_eq_true rfl) (Nat.le_of_ble_eq_true rfl) ?_
    exact W.iret hx hb hr (fun t ht hW => ⟨⟨_, (), rfl, rfl, (by show va_P D vwCl _ t.heap; rw [ht]; exact hP)⟩, hS.F ht⟩) hS.2.2 dX7_takeBack_165
  · intro m33 c34 c35 c36 c37 hz H locs ls hP hD hS hl
    subst hz
    have hf := sel_1_2 hf
    dsimp only at hf
    refine (hWW _ _ _ _ _).mpr ?_
    refine lv_iload_n hx hb dX7_takeBack_164 rfl (lv_at hl 0 rfl) ?_
    cases hf
    refine W.widen (k := 0) (n := 0) (Nat.le_of_ble_eq_true rfl) (Nat.le_of_ble_eq_true rfl) ?_
    exact W.iret hx hb hr (fun t ht hW => ⟨⟨_, (), rfl, rfl, (by show va_P D vwCl _ t.heap; rw [ht]; exact hP)⟩, hS.F ht⟩) hS.2.2 dX7_takeBack_165
