def f_X8_next (v1 : Int32) (c_x : Int32) : Option (Int32 × Int32) :=
  gz v1 (some (((((c_x * 1103515245) + 12345).toUInt32 >>> ((16 : Int32).toUInt32 &&& Int32.toUInt32 31)).toInt32) - ((((c_x * 1103515245) + 12345).toUInt32 >>> ((16 : Int32).toUInt32 &&& Int32.toUInt32 31)).toInt32) / v1 * v1, (c_x * 1103515245) + 12345))
set_option maxHeartbeats 4000000 in
set_option maxRecDepth 100000 in
theorem k_X8_next (l : Launch) (hl0 : l.stackTraces = false) (D : va_G) (cI cJ cZ cS : ClassId) (B0 : Nat) (sz : Nat) (a0 : Nat) (c_x : Int32) (v1 : Int32) (r9 : Int32) (oc_x : Int32)  (hf : f_X8_next v1 c_x = some (r9, oc_x)) : Met l yX8_next (wz yX8_next cX8_next 2 (some .int)) ({ frames := 0, cells := 0, slots := 0, locals := 0 }) (va_Pc [.ref a0, .int v1] (wp D cI cJ cZ cS B0 [oX8 a0 c_x] sz)) (va_Qi (fun (r2 : Int32) (_ : Unit) => r2 = r9) (fun _ t => va_P D vwCl [oX8 a0 oc_x] t.heap) (va_A [oX8 a0 c_x] sz)) 0 0 (va_A [oX8 a0 c_x] sz) := by
  refine Met.ofW (cc := cX8_next) (maxL := 2) (ret := (some .int)) (by decide) rfl ?_
  intro p e s m args below meth c s₁ B hml hv
  obtain ⟨rfl, hsz, hP, hK, hD0, hB0, hE⟩ := hv
  subst hsz
  have hx := B.exec
  have hb := B.bytes
  have hr := B.returns
  have hts := atoms_spec (ws := (wz yX8_next cX8_next 2 (some .int))) B.pre
  have hown : s.vm.findClass RX8 = some m.cls := findClass_of_methodNamed B.named
  have hlocks := B.notSynchronized
  have hD := hD0.self (sz := s.heap.size)
  have hAB : ∀ q : Nat, va_A [oX8 a0 c_x] s.heap.size q → B0 ≤ q := va_A_B hD0 hB0
  generalize hAe : va_A [oX8 a0 c_x] s.heap.size = A at hD hAB ⊢
  have hA : ∀ q : Nat, s.heap.size ≤ q → A q := fun q h => by rw [← hAe]; exact Or.inr h
  have hFa := hA
  have hS : va_S A s.heap s.heap [] := va_S.rf
  have hBn := fun (H : Heap) (locs : List Loc) (h : va_S A s.heap H locs) => Nat.le_trans hB0 h.1
  have hEn := fun (H : Heap) (locs : List Loc) (h : va_S A s.heap H locs) => gE_now hE h hAB
  have hl := lv_entry ([.ref a0, .int v1]) (n := 2) (Nat.le_of_ble_eq_true rfl)
  rw [lg_entry_eq]
  generalize (lg_sl ([.ref a0, .int v1]) ++ List.replicate (2 - (lg_sl ([.ref a0, .int v1])).length) Slot.unset).toArray = ls at hl ⊢
  have hl : lv_has ls 2 [(0, .ref a0), (1, .int v1)] := hl
  obtain ⟨H, hHe⟩ : ∃ H : Heap, H = s.heap := ⟨_, rfl⟩
  have hP : va_P D vwCl [oX8 a0 c_x] H := by rw [hHe]; exact hP
  have hS : va_S A s.heap H [] := by rw [hHe]; exact hS
  refine W_heq hHe ?_
  unfold f_X8_next at hf
  refine lv_aload_n hx hb dX8_next_0 rfl (lv_at hl 0 rfl) ?_
  refine lv_aload_n hx hb dX8_next_1 rfl (lv_at hl 0 rfl) ?_
  refine va_get (D := D) (ci := 7) (v := .int c_x) (C := RX8) (T := TX8) (N := 1) hx hb hts (fun w h => mb (iX8 w h)) hown hK hP 0 rfl rfl 0 (by decide) (hts _ (mb tb_307)) (fun _ h9 => h9) rfl dX8_next_2 ?_
  refine lv_ldc hx hb hown (hts _ (mb tb_348)) dX8_next_5 ?_
  refine lv_imul hx hb dX8_next_7 ?_
  refine lv_sipush (v := 12345) hx hb dX8_next_8 (by decide) ?_
  refine lv_iadd hx hb dX8_next_11 ?_
  refine va_put (D := D) (ci := 7) (v := .int ((c_x * 1103515245) + 12345)) (ty := .int) (C := RX8) (T := TX8) (N := 1) hx hb hts (fun w h => mb (iX8 w h)) tyX8 tyX8_ok nmX8 hown hK hP hD hS 0 rfl rfl 0 (by decide) (hts _ (mb tb_307)) (fun _ h9 => h9) rfl (by decide +kernel) rfl rfl (Nat.le_of_ble_eq_true rfl) dX8_next_12 (fun H locs hP hD hS => ?_)
  have hP : va_P D vwCl [oX8 a0 ((c_x * 1103515245) + 12345)] H := hP
  have hD : va_D A [oX8 a0 ((c_x * 1103515245) + 12345)] := hD
  refine lv_aload_n hx hb dX8_next_15 rfl (lv_at hl 0 rfl) ?_
  refine va_get (D := D) (ci := 7) (v := .int ((c_x * 1103515245) + 12345)) (C := RX8) (T := TX8) (N := 1) hx hb hts (fun w h => mb (iX8 w h)) hown hK hP 0 rfl rfl 0 (by decide) (hts _ (mb tb_307)) (fun _ h9 => h9) rfl dX8_next_16 ?_
  refine lv_bipush (v := 16) hx hb dX8_next_19 (by decide) ?_
  refine lv_iushr hx hb dX8_next_21 rfl ?_
  refine lv_iload_n hx hb dX8_next_22 rfl (lv_at hl 1 rfl) ?_
  obtain ⟨h1, hf⟩ := ob_z hf
  refine lv_irem hx hb dX8_next_23 h1 ?_
  cases hf
  refine W.widen (k := 0) (n := 0) (Nat.le_of_ble_eq_true rfl) (Nat.le_of_ble_eq_true rfl) ?_
  exact W.iret hx hb hr (fun t ht hW => ⟨⟨_, (), rfl, rfl, (by show va_P D vwCl _ t.heap; rw [ht]; exact hP)⟩, hS.F ht⟩) hS.2.2 dX8_next_24
