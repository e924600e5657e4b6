def f_X8_init_L118 (c_near : Nat → Int32) (n1 : Int32) (c_w : Nat → Int32) : Option ((Int32 × (Nat → Int32)) ⊕ (Nat → Int32)) :=
  (if 5 ≤ n1 then some (.inr c_w)
  else gd (2432 + n1) 2450 (some (.inl (n1 + 1, upd c_w (2432 + n1).toNatClampNeg 1))))
def f_X8_init : Option ((Nat → Int32) × (Nat → Int32)) :=
  bnd2 (f_X8_begins 3 4 6 2 (fun _ => 0) (fun _ => 0)) (fun o3 o4 =>
  ((bnd1 (loop (fun z => f_X8_init_L118 o4 z.1 z.2) fu (0, o3)) fun c8 =>
  bnd1 (f_X8_costs 10 2 1 9 10 c8) (fun o11 =>
  (some (o11, o4))))))
set_option maxHeartbeats 4000000 in
set_option maxRecDepth 100000 in
theorem k_X8_init (l : Launch) (hl0 : l.stackTraces = false) (D : va_G) (cI cJ cZ cS : ClassId) (B0 : Nat) (sz : Nat) (a0 : Nat) (oc_w : Nat → Int32) (oc_near : Nat → Int32) (hf : f_X8_init = some (oc_w, oc_near)) : Met l yX8_init (wz yX8_init cX8_init 2 none) ({ frames := 4, cells := 12, slots := 35844, locals := 89 }) (va_Pc [.ref a0] (wp D cI cJ cZ cS B0 [(a0, .inr (7, [.int 0, .null, .null, .null, .int 0, .int 0, .null, .null, .null, .null, .null, .null, .null, .null, .null]))] sz)) (va_Qv (fun (_ : Nat → Nat) => True) (fun q t => va_P D vwCl [oX8 a0 0 (q 0) (q 1) (q 2) 0 0 (q 3) (q 4) (q 5) (q 6) (q 7) (q 8) (q 9) (q 10) (q 11), rI cI (q 0) 2450 oc_w, rI cI (q 1) 19600 (fun _ => 0), rI cI (q 2) 2450 (fun _ => 0), rI cI (q 3) 48 oc_near, rI cZ (q 4) 40 (fun _ => 0), rI cI (q 5) 11 (fun _ => 0), rI cI (q 6) 11 (fun _ => 0), rI cI (q 7) 10240 (fun _ => 0), rI cI (q 8) 256 (fun _ => 0), rJ cJ (q 9) 366 (fun _ => 0), rJ cJ (q 10) 366 (fun _ => 0), rJ cJ (q 11) 6 (fun _ => 0)] t.heap ∧ va_D (va_A [(a0, .inr (7, [.int 0, .null, .null, .null, .int 0, .int 0, .null, .null, .null, .null, .null, .null, .null, .null, .null]))] sz) [oX8 a0 0 (q 0) (q 1) (q 2) 0 0 (q 3) (q 4) (q 5) (q 6) (q 7) (q 8) (q 9) (q 10) (q 11), rI cI (q 0) 2450 oc_w, rI cI (q 1) 19600 (fun _ => 0), rI cI (q 2) 2450 (fun _ => 0), rI cI (q 3) 48 oc_near, rI cZ (q 4) 40 (fun _ => 0), rI cI (q 5) 11 (fun _ => 0), rI cI (q 6) 11 (fun _ => 0), rI cI (q 7) 10240 (fun _ => 0), rI cI (q 8) 256 (fun _ => 0), rJ cJ (q 9) 366 (fun _ => 0), rJ cJ (q 10) 366 (fun _ => 0), rJ cJ (q 11) 6 (fun _ => 0)]) (va_A [(a0, .inr (7, [.int 0, .null, .null, .null, .int 0, .int 0, .null, .null, .null, .null, .null, .null, .null, .null, .null]))] sz)) 12 35844 (va_A [(a0, .inr (7, [.int 0, .null, .null, .null, .int 0, .int 0, .null, .null, .null, .null, .null, .null, .null, .null, .null]))] sz) := by
  refine Met.ofW (cc := cX8_init) (maxL := 2) (ret := none) (by decide) rfl ?_
  intro p e s m args below meth c s₁ B hml hv
  obtain ⟨rfl, hsz, hP, hK, hD0, hB0, hE⟩ := hv
  subst hsz
  have hx := B.exec
  have hb := B.bytes
  have hr := B.returns
  have hts := atoms_spec (ws := (wz yX8_init cX8_init 2 none)) B.pre
  have hown : s.vm.findClass RX8 = some m.cls := findClass_of_methodNamed B.named
  have hlocks := B.notSynchronized
  have hin : meth.name = "<init>" := (name_of_methodNamed B.named B.method).1
  have hD := hD0.self (sz := s.heap.size)
  have hAB : ∀ q : Nat, va_A [(a0, .inr (7, [.int 0, .null, .null, .null, .int 0, .int 0, .null, .null, .null, .null, .null, .null, .null, .null, .null]))] s.heap.size q → B0 ≤ q := va_A_B hD0 hB0
  generalize hAe : va_A [(a0, .inr (7, [.int 0, .null, .null, .null, .int 0, .int 0, .null, .null, .null, .null, .null, .null, .null, .null, .null]))] s.heap.size = A at hD hAB ⊢
  have hA : ∀ q : Nat, s.heap.size ≤ q → A q := fun q h => by rw [← hAe]; exact Or.inr h
  have hS : va_S A s.heap s.heap [] := va_S.rf
  have hBn := fun (H : Heap) (locs : List Loc) (h : va_S A s.heap H locs) => Nat.le_trans hB0 h.1
  have hEn := fun (H : Heap) (locs : List Loc) (h : va_S A s.heap H locs) => gE_now hE h hAB
  have hl := lv_entry ([.ref a0]) (n := 2) (Nat.le_of_ble_eq_true rfl)
  rw [lg_entry_eq]
  generalize (lg_sl ([.ref a0]) ++ List.replicate (2 - (lg_sl ([.ref a0])).length) Slot.unset).toArray = ls at hl ⊢
  have hl : lv_has ls 2 [(0, .ref a0)] := hl
  obtain ⟨H, hHe⟩ : ∃ H : Heap, H = s.heap := ⟨_, rfl⟩
  have hP : va_P D vwCl [(a0, .inr (7, [.int 0, .null, .null, .null, .int 0, .int 0, .null, .null, .null, .null, .null, .null, .null, .null, .null]))] H := by rw [hHe]; exact hP
  have hS : va_S A s.heap H [] := by rw [hHe]; exact hS
  refine W_heq hHe ?_
  refine lv_aload_n hx hb dX8_init_0 rfl (lv_at hl 0 rfl) ?_
  refine W.objInit hx hb hown (hts _ (mb tb_1067)) (hts _ (mb tb_26)) (hts _ (mb tb_27)) rfl (by rw [hml]; exact hl.1) rfl dX8_init_1 (Nat.le_of_ble_eq_true rfl) (Nat.le_of_ble_eq_true rfl) ?_
  refine W.eq (g2 := F0 m 4 ls []) rfl ?_
  refine lv_aload_n hx hb dX8_init_4 rfl (lv_at hl 0 rfl) ?_
  refine lv_sipush (v := 2450) hx hb dX8_init_5 (by decide) ?_
  refine va_newa (atype := .int) (ty := .int) (N' := 2450) (a0 := (2450, (.inl (fun _ => 0)))) hx hb (hts _ (mb tb_80)) rfl hK hP hD hS hA (fun _ => rfl) (by decide +kernel) (by decide +kernel) (Nat.le_of_ble_eq_true rfl) (Nat.le_of_ble_eq_true rfl) (Nat.le_of_ble_eq_true rfl) dX8_init_8 (fun a_w cN H hK1 hP hD hS => ?_)
  have hcN := (ty_one hK1 0 (by rfl) rfl).symm
  subst hcN
  have hP : va_P D vwCl [(a0, .inr (7, [.int 0, .null, .null, .null, .int 0, .int 0, .null, .null, .null, .null, .null, .null, .null, .null, .null])), rI cI a_w 2450 (fun _ => 0)] H := hP
  have hD : va_D A [(a0, .inr (7, [.int 0, .null, .null, .null, .int 0, .int 0, .null, .null, .null, .null, .null, .null, .null, .null, .null])), rI cI a_w 2450 (fun _ => 0)] := hD
  refine W.widen (k := 1) (n := 2450) (Nat.le_of_ble_eq_true rfl) (Nat.le_of_ble_eq_true rfl) ?_
  refine va_putF (D := D) (ci := 7) (v := .ref a_w) (ty := .array .int) (C := RX8) (T := TX8) (N := 15) hx hb hts (fun w h => mb (iX8 w h)) tyX8 tyX8_ok nmX8 hown hK hP hD hS 0 rfl rfl 1 (by decide) (hts _ (mb tb_1097)) (fun _ h9 => h9) rfl hin rfl (by decide +kernel) rfl rfl (Nat.le_of_ble_eq_true rfl) dX8_init_10 (fun H locs hP hD hS => ?_)
  have hP : va_P D vwCl [(a0, .inr (7, [.int 0, .ref a_w, .null, .null, .int 0, .int 0, .null, .null, .null, .null, .null, .null, .null, .null, .null])), rI cI a_w 2450 (fun _ => 0)] H := hP
  have hD : va_D A [(a0, .inr (7, [.int 0, .ref a_w, .null, .null, .int 0, .int 0, .null, .null, .null, .null, .null, .null, .null, .null, .null])), rI cI a_w 2450 (fun _ => 0)] := hD
  refine lv_aload_n hx hb dX8_init_13 rfl (lv_at hl 0 rfl) ?_
  refine lv_sipush (v := 19600) hx hb dX8_init_14 (by decide) ?_
  refine va_newa (atype := .int) (ty := .int) (N' := 19600) (a0 := (19600, (.inl (fun _ => 0)))) hx hb (hts _ (mb tb_80)) rfl hK hP hD hS hA (fun _ => rfl) (by decide +kernel) (by decide +kernel) (Nat.le_of_ble_eq_true rfl) (Nat.le_of_ble_eq_true rfl) (Nat.le_of_ble_eq_true rfl) dX8_init_17 (fun a_kept cN H hK1 hP hD hS => ?_)
  have hcN := (ty_one hK1 0 (by rfl) rfl).symm
  subst hcN
  have hP : va_P D vwCl [(a0, .inr (7, [.int 0, .ref a_w, .null, .null, .int 0, .int 0, .null, .null, .null, .null, .null, .null, .null, .null, .null])), rI cI a_w 2450 (fun _ => 0), rI cI a_kept 19600 (fun _ => 0)] H := hP
  have hD : va_D A [(a0, .inr (7, [.int 0, .ref a_w, .null, .null, .int 0, .int 0, .null, .null, .null, .null, .null, .null, .null, .null, .null])), rI cI a_w 2450 (fun _ => 0), rI cI a_kept 19600 (fun _ => 0)] := hD
  refine W.widen (k := 2) (n := 22050) (Nat.le_of_ble_eq_true rfl) (Nat.le_of_ble_eq_true rfl) ?_
  refine va_putF (D := D) (ci := 7) (v := .ref a_kept) (ty := .array .int) (C := RX8) (T := TX8) (N := 15) hx hb hts (fun w h => mb (iX8 w h)) tyX8 tyX8_ok nmX8 hown hK hP hD hS 0 rfl rfl 2 (by decide) (hts _ (mb tb_1098)) (fun _ h9 => h9) rfl hin rfl (by decide +kernel) rfl rfl (Nat.le_of_ble_eq_true rfl) dX8_init_19 (fun H locs hP hD hS => ?_)
  have hP : va_P D vwCl [(a0, .inr (7, [.int 0, .ref a_w, .ref a_kept, .null, .int 0, .int 0, .null, .null, .null, .null, .null, .null, .null, .null, .null])), rI cI a_w 2450 (fun _ => 0), rI cI a_kept 19600 (fun _ => 0)] H := hP
  have hD : va_D A [(a0, .inr (7, [.int 0, .ref a_w, .ref a_kept, .null, .int 0, .int 0, .null, .null, .null, .null, .null, .null, .null, .null, .null])), rI cI a_w 2450 (fun _ => 0), rI cI a_kept 19600 (fun _ => 0)] := hD
  refine lv_aload_n hx hb dX8_init_22 rfl (lv_at hl 0 rfl) ?_
  refine lv_sipush (v := 2450) hx hb dX8_init_23 (by decide) ?_
  refine va_newa (atype := .int) (ty := .int) (N' := 2450) (a0 := (2450, (.inl (fun _ => 0)))) hx hb (hts _ (mb tb_80)) rfl hK hP hD hS hA (fun _ => rfl) (by decide +kernel) (by decide +kernel) (Nat.le_of_ble_eq_true rfl) (Nat.le_of_ble_eq_true rfl) (Nat.le_of_ble_eq_true rfl) dX8_init_26 (fun a_copy cN H hK1 hP hD hS => ?_)
  have hcN := (ty_one hK1 0 (by rfl) rfl).symm
  subst hcN
  have hP : va_P D vwCl [(a0, .inr (7, [.int 0, .ref a_w, .ref a_kept, .null, .int 0, .int 0, .null, .null, .null, .null, .null, .null, .null, .null, .null])), rI cI a_w 2450 (fun _ => 0), rI cI a_kept 19600 (fun _ => 0), rI cI a_copy 2450 (fun _ => 0)] H := hP
  have hD : va_D A [(a0, .inr (7, [.int 0, .ref a_w, .ref a_kept, .null, .int 0, .int 0, .null, .null, .null, .null, .null, .null, .null, .null, .null])), rI cI a_w 2450 (fun _ => 0), rI cI a_kept 19600 (fun _ => 0), rI cI a_copy 2450 (fun _ => 0)] := hD
  refine W.widen (k := 3) (n := 24500) (Nat.le_of_ble_eq_true rfl) (Nat.le_of_ble_eq_true rfl) ?_
  refine va_putF (D := D) (ci := 7) (v := .ref a_copy) (ty := .array .int) (C := RX8) (T := TX8) (N := 15) hx hb hts (fun w h => mb (iX8 w h)) tyX8 tyX8_ok nmX8 hown hK hP hD hS 0 rfl rfl 3 (by decide) (hts _ (mb tb_1099)) (fun _ h9 => h9) rfl hin rfl (by decide +kernel) rfl rfl (Nat.le_of_ble_eq_true rfl) dX8_init_28 (fun H locs hP hD hS => ?_)
  have hP : va_P D vwCl [(a0, .inr (7, [.int 0, .ref a_w, .ref a_kept, .ref a_copy, .int 0, .int 0, .null, .null, .null, .null, .null, .null, .null, .null, .null])), rI cI a_w 2450 (fun _ => 0), rI cI a_kept 19600 (fun _ => 0), rI cI a_copy 2450 (fun _ => 0)] H := hP
  have hD : va_D A [(a0, .inr (7, [.int 0, .ref a_w, .ref a_kept, .ref a_copy, .int 0, .int 0, .null, .null, .null, .null, .null, .null, .null, .null, .null])), rI cI a_w 2450 (fun _ => 0), rI cI a_kept 19600 (fun _ => 0), rI cI a_copy 2450 (fun _ => 0)] := hD
  refine lv_aload_n hx hb dX8_init_31 rfl (lv_at hl 0 rfl) ?_
  refine lv_bipush (v := 48) hx hb dX8_init_32 (by decide) ?_
  refine va_newa (atype := .int) (ty := .int) (N' := 48) (a0 := (48, (.inl (fun _ => 0)))) hx hb (hts _ (mb tb_80)) rfl hK hP hD hS hA (fun _ => rfl) (by decide +kernel) (by decide +kernel) (Nat.le_of_ble_eq_true rfl) (Nat.le_of_ble_eq_true rfl) (Nat.le_of_ble_eq_true rfl) dX8_init_34 (fun a_near cN H hK1 hP hD hS => ?_)
  have hcN := (ty_one hK1 0 (by rfl) rfl).symm
  subst hcN
  have hP : va_P D vwCl [(a0, .inr (7, [.int 0, .ref a_w, .ref a_kept, .ref a_copy, .int 0, .int 0, .null, .null, .null, .null, .null, .null, .null, .null, .null])), rI cI a_w 2450 (fun _ => 0), rI cI a_kept 19600 (fun _ => 0), rI cI a_copy 2450 (fun _ => 0), rI cI a_near 48 (fun _ => 0)] H := hP
  have hD : va_D A [(a0, .inr (7, [.int 0, .ref a_w, .ref a_kept, .ref a_copy, .int 0, .int 0, .null, .null, .null, .null, .null, .null, .null, .null, .null])), rI cI a_w 2450 (fun _ => 0), rI cI a_kept 19600 (fun _ => 0), rI cI a_copy 2450 (fun _ => 0), rI cI a_near 48 (fun _ => 0)] := hD
  refine W.widen (k := 4) (n := 24548) (Nat.le_of_ble_eq_true rfl) (Nat.le_of_ble_eq_true rfl) ?_
  refine va_putF (D := D) (ci := 7) (v := .ref a_near) (ty := .array .int) (C := RX8) (T := TX8) (N := 15) hx hb hts (fun w h => mb (iX8 w h)) tyX8 tyX8_ok nmX8 hown hK hP hD hS 0 rfl rfl 6 (by decide) (hts _ (mb tb_1102)) (fun _ h9 => h9) rfl hin rfl (by decide +kernel) rfl rfl (Nat.le_of_ble_eq_true rfl) dX8_init_36 (fun H locs hP hD hS => ?_)
  have hP : va_P D vwCl [(a0, .inr (7, [.int 0, .ref a_w, .ref a_kept, .ref a_copy, .int 0, .int 0, .ref a_near, .null, .null, .null, .null, .null, .null, .null, .null])), rI cI a_w 2450 (fun _ => 0), rI cI a_kept 19600 (fun _ => 0), rI cI a_copy 2450 (fun _ => 0), rI cI a_near 48 (fun _ => 0)] H := hP
  have hD : va_D A [(a0, .inr (7, [.int 0, .ref a_w, .ref a_kept, .ref a_copy, .int 0, .int 0, .ref a_near, .null, .null, .null, .null, .null, .null, .null, .null])), rI cI a_w 2450 (fun _ => 0), rI cI a_kept 19600 (fun _ => 0), rI cI a_copy 2450 (fun _ => 0), rI cI a_near 48 (fun _ => 0)] := hD
  refine lv_aload_n hx hb dX8_init_39 rfl (lv_at hl 0 rfl) ?_
  refine lv_bipush (v := 40) hx hb dX8_init_40 (by decide) ?_
  refine va_newa (atype := .boolean) (ty := .boolean) (N' := 40) (a0 := (40, (.inl (fun _ => 0)))) hx hb (hts _ (mb tb_1142)) rfl hK hP hD hS hA (fun _ => rfl) (by decide +kernel) (by decide +kernel) (Nat.le_of_ble_eq_true rfl) (Nat.le_of_ble_eq_true rfl) (Nat.le_of_ble_eq_true rfl) dX8_init_42 (fun a_isDone cN H hK1 hP hD hS => ?_)
  have hcN := (ty_one hK1 2 (by rfl) rfl).symm
  subst hcN
  have hP : va_P D vwCl [(a0, .inr (7, [.int 0, .ref a_w, .ref a_kept, .ref a_copy, .int 0, .int 0, .ref a_near, .null, .null, .null, .null, .null, .null, .null, .null])), rI cI a_w 2450 (fun _ => 0), rI cI a_kept 19600 (fun _ => 0), rI cI a_copy 2450 (fun _ => 0), rI cI a_near 48 (fun _ => 0), rI cZ a_isDone 40 (fun _ => 0)] H := hP
  have hD : va_D A [(a0, .inr (7, [.int 0, .ref a_w, .ref a_kept, .ref a_copy, .int 0, .int 0, .ref a_near, .null, .null, .null, .null, .null, .null, .null, .null])), rI cI a_w 2450 (fun _ => 0), rI cI a_kept 19600 (fun _ => 0), rI cI a_copy 2450 (fun _ => 0), rI cI a_near 48 (fun _ => 0), rI cZ a_isDone 40 (fun _ => 0)] := hD
  refine W.widen (k := 5) (n := 24588) (Nat.le_of_ble_eq_true rfl) (Nat.le_of_ble_eq_true rfl) ?_
  refine va_putF (D := D) (ci := 7) (v := .ref a_isDone) (ty := .array .boolean) (C := RX8) (T := TX8) (N := 15) hx hb hts (fun w h => mb (iX8 w h)) tyX8 tyX8_ok nmX8 hown hK hP hD hS 0 rfl rfl 7 (by decide) (hts _ (mb tb_1103)) (fun _ h9 => h9) rfl hin rfl (by decide +kernel) rfl rfl (Nat.le_of_ble_eq_true rfl) dX8_init_44 (fun H locs hP hD hS => ?_)
  have hP : va_P D vwCl [(a0, .inr (7, [.int 0, .ref a_w, .ref a_kept, .ref a_copy, .int 0, .int 0, .ref a_near, .ref a_isDone, .null, .null, .null, .null, .null, .null, .null])), rI cI a_w 2450 (fun _ => 0), rI cI a_kept 19600 (fun _ => 0), rI cI a_copy 2450 (fun _ => 0), rI cI a_near 48 (fun _ => 0), rI cZ a_isDone 40 (fun _ => 0)] H := hP
  have hD : va_D A [(a0, .inr (7, [.int 0, .ref a_w, .ref a_kept, .ref a_copy, .int 0, .int 0, .ref a_near, .ref a_isDone, .null, .null, .null, .null, .null, .null, .null])), rI cI a_w 2450 (fun _ => 0), rI cI a_kept 19600 (fun _ => 0), rI cI a_copy 2450 (fun _ => 0), rI cI a_near 48 (fun _ => 0), rI cZ a_isDone 40 (fun _ => 0)] := hD
  refine lv_aload_n hx hb dX8_init_47 rfl (lv_at hl 0 rfl) ?_
  refine lv_bipush (v := 11) hx hb dX8_init_48 (by decide) ?_
  refine va_newa (atype := .int) (ty := .int) (N' := 11) (a0 := (11, (.inl (fun _ => 0)))) hx hb (hts _ (mb tb_80)) rfl hK hP hD hS hA (fun _ => rfl) (by decide +kernel) (by decide +kernel) (Nat.le_of_ble_eq_true rfl) (Nat.le_of_ble_eq_true rfl) (Nat.le_of_ble_eq_true rfl) dX8_init_50 (fun a_lane cN H hK1 hP hD hS => ?_)
  have hcN := (ty_one hK1 0 (by rfl) rfl).symm
  subst hcN
  have hP : va_P D vwCl [(a0, .inr (7, [.int 0, .ref a_w, .ref a_kept, .ref a_copy, .int 0, .int 0, .ref a_near, .ref a_isDone, .null, .null, .null, .null, .null, .null, .null])), rI cI a_w 2450 (fun _ => 0), rI cI a_kept 19600 (fun _ => 0), rI cI a_copy 2450 (fun _ => 0), rI cI a_near 48 (fun _ => 0), rI cZ a_isDone 40 (fun _ => 0), rI cI a_lane 11 (fun _ => 0)] H := hP
  have hD : va_D A [(a0, .inr (7, [.int 0, .ref a_w, .ref a_kept, .ref a_copy, .int 0, .int 0, .ref a_near, .ref a_isDone, .null, .null, .null, .null, .null, .null, .null])), rI cI a_w 2450 (fun _ => 0), rI cI a_kept 19600 (fun _ => 0), rI cI a_copy 2450 (fun _ => 0), rI cI a_near 48 (fun _ => 0), rI cZ a_isDone 40 (fun _ => 0), rI cI a_lane 11 (fun _ => 0)] := hD
  refine W.widen (k := 6) (n := 24599) (Nat.le_of_ble_eq_true rfl) (Nat.le_of_ble_eq_true rfl) ?_
  refine va_putF (D := D) (ci := 7) (v := .ref a_lane) (ty := .array .int) (C := RX8) (T := TX8) (N := 15) hx hb hts (fun w h => mb (iX8 w h)) tyX8 tyX8_ok nmX8 hown hK hP hD hS 0 rfl rfl 8 (by decide) (hts _ (mb tb_1104)) (fun _ h9 => h9) rfl hin rfl (by decide +kernel) rfl rfl (Nat.le_of_ble_eq_true rfl) dX8_init_52 (fun H locs hP hD hS => ?_)
  have hP : va_P D vwCl [(a0, .inr (7, [.int 0, .ref a_w, .ref a_kept, .ref a_copy, .int 0, .int 0, .ref a_near, .ref a_isDone, .ref a_lane, .null, .null, .null, .null, .null, .null])), rI cI a_w 2450 (fun _ => 0), rI cI a_kept 19600 (fun _ => 0), rI cI a_copy 2450 (fun _ => 0), rI cI a_near 48 (fun _ => 0), rI cZ a_isDone 40 (fun _ => 0), rI cI a_lane 11 (fun _ => 0)] H := hP
  have hD : va_D A [(a0, .inr (7, [.int 0, .ref a_w, .ref a_kept, .ref a_copy, .int 0, .int 0, .ref a_near, .ref a_isDone, .ref a_lane, .null, .null, .null, .null, .null, .null])), rI cI a_w 2450 (fun _ => 0), rI cI a_kept 19600 (fun _ => 0), rI cI a_copy 2450 (fun _ => 0), rI cI a_near 48 (fun _ => 0), rI cZ a_isDone 40 (fun _ => 0), rI cI a_lane 11 (fun _ => 0)] := hD
  refine lv_aload_n hx hb dX8_init_55 rfl (lv_at hl 0 rfl) ?_
  refine lv_bipush (v := 11) hx hb dX8_init_56 (by decide) ?_
  refine va_newa (atype := .int) (ty := .int) (N' := 11) (a0 := (11, (.inl (fun _ => 0)))) hx hb (hts _ (mb tb_80)) rfl hK hP hD hS hA (fun _ => rfl) (by decide +kernel) (by decide +kernel) (Nat.le_of_ble_eq_true rfl) (Nat.le_of_ble_eq_true rfl) (Nat.le_of_ble_eq_true rfl) dX8_init_58 (fun a_position cN H hK1 hP hD hS => ?_)
  have hcN := (ty_one hK1 0 (by rfl) rfl).symm
  subst hcN
  have hP : va_P D vwCl [(a0, .inr (7, [.int 0, .ref a_w, .ref a_kept, .ref a_copy, .int 0, .int 0, .ref a_near, .ref a_isDone, .ref a_lane, .null, .null, .null, .null, .null, .null])), rI cI a_w 2450 (fun _ => 0), rI cI a_kept 19600 (fun _ => 0), rI cI a_copy 2450 (fun _ => 0), rI cI a_near 48 (fun _ => 0), rI cZ a_isDone 40 (fun _ => 0), rI cI a_lane 11 (fun _ => 0), rI cI a_position 11 (fun _ => 0)] H := hP
  have hD : va_D A [(a0, .inr (7, [.int 0, .ref a_w, .ref a_kept, .ref a_copy, .int 0, .int 0, .ref a_near, .ref a_isDone, .ref a_lane, .null, .null, .null, .null, .null, .null])), rI cI a_w 2450 (fun _ => 0), rI cI a_kept 19600 (fun _ => 0), rI cI a_copy 2450 (fun _ => 0), rI cI a_near 48 (fun _ => 0), rI cZ a_isDone 40 (fun _ => 0), rI cI a_lane 11 (fun _ => 0), rI cI a_position 11 (fun _ => 0)] := hD
  refine W.widen (k := 7) (n := 24610) (Nat.le_of_ble_eq_true rfl) (Nat.le_of_ble_eq_true rfl) ?_
  refine va_putF (D := D) (ci := 7) (v := .ref a_position) (ty := .array .int) (C := RX8) (T := TX8) (N := 15) hx hb hts (fun w h => mb (iX8 w h)) tyX8 tyX8_ok nmX8 hown hK hP hD hS 0 rfl rfl 9 (by decide) (hts _ (mb tb_1105)) (fun _ h9 => h9) rfl hin rfl (by decide +kernel) rfl rfl (Nat.le_of_ble_eq_true rfl) dX8_init_60 (fun H locs hP hD hS => ?_)
  have hP : va_P D vwCl [(a0, .inr (7, [.int 0, .ref a_w, .ref a_kept, .ref a_copy, .int 0, .int 0, .ref a_near, .ref a_isDone, .ref a_lane, .ref a_position, .null, .null, .null, .null, .null])), rI cI a_w 2450 (fun _ => 0), rI cI a_kept 19600 (fun _ => 0), rI cI a_copy 2450 (fun _ => 0), rI cI a_near 48 (fun _ => 0), rI cZ a_isDone 40 (fun _ => 0), rI cI a_lane 11 (fun _ => 0), rI cI a_position 11 (fun _ => 0)] H := hP
  have hD : va_D A [(a0, .inr (7, [.int 0, .ref a_w, .ref a_kept, .ref a_copy, .int 0, .int 0, .ref a_near, .ref a_isDone, .ref a_lane, .ref a_position, .null, .null, .null, .null, .null])), rI cI a_w 2450 (fun _ => 0), rI cI a_kept 19600 (fun _ => 0), rI cI a_copy 2450 (fun _ => 0), rI cI a_near 48 (fun _ => 0), rI cZ a_isDone 40 (fun _ => 0), rI cI a_lane 11 (fun _ => 0), rI cI a_position 11 (fun _ => 0)] := hD
  refine lv_aload_n hx hb dX8_init_63 rfl (lv_at hl 0 rfl) ?_
  refine lv_sipush (v := 10240) hx hb dX8_init_64 (by decide) ?_
  refine va_newa (atype := .int) (ty := .int) (N' := 10240) (a0 := (10240, (.inl (fun _ => 0)))) hx hb (hts _ (mb tb_80)) rfl hK hP hD hS hA (fun _ => rfl) (by decide +kernel) (by decide +kernel) (Nat.le_of_ble_eq_true rfl) (Nat.le_of_ble_eq_true rfl) (Nat.le_of_ble_eq_true rfl) dX8_init_67 (fun a_least cN H hK1 hP hD hS => ?_)
  have hcN := (ty_one hK1 0 (by rfl) rfl).symm
  subst hcN
  have hP : va_P D vwCl [(a0, .inr (7, [.int 0, .ref a_w, .ref a_kept, .ref a_copy, .int 0, .int 0, .ref a_near, .ref a_isDone, .ref a_lane, .ref a_position, .null, .null, .null, .null, .null])), rI cI a_w 2450 (fun _ => 0), rI cI a_kept 19600 (fun _ => 0), rI cI a_copy 2450 (fun _ => 0), rI cI a_near 48 (fun _ => 0), rI cZ a_isDone 40 (fun _ => 0), rI cI a_lane 11 (fun _ => 0), rI cI a_position 11 (fun _ => 0), rI cI a_least 10240 (fun _ => 0)] H := hP
  have hD : va_D A [(a0, .inr (7, [.int 0, .ref a_w, .ref a_kept, .ref a_copy, .int 0, .int 0, .ref a_near, .ref a_isDone, .ref a_lane, .ref a_position, .null, .null, .null, .null, .null])), rI cI a_w 2450 (fun _ => 0), rI cI a_kept 19600 (fun _ => 0), rI cI a_copy 2450 (fun _ => 0), rI cI a_near 48 (fun _ => 0), rI cZ a_isDone 40 (fun _ => 0), rI cI a_lane 11 (fun _ => 0), rI cI a_position 11 (fun _ => 0), rI cI a_least 10240 (fun _ => 0)] := hD
  refine W.widen (k := 8) (n := 34850) (Nat.le_of_ble_eq_true rfl) (Nat.le_of_ble_eq_true rfl) ?_
  refine va_putF (D := D) (ci := 7) (v := .ref a_least) (ty := .array .int) (C := RX8) (T := TX8) (N := 15) hx hb hts (fun w h => mb (iX8 w h)) tyX8 tyX8_ok nmX8 hown hK hP hD hS 0 rfl rfl 10 (by decide) (hts _ (mb tb_1106)) (fun _ h9 => h9) rfl hin rfl (by decide +kernel) rfl rfl (Nat.le_of_ble_eq_true rfl) dX8_init_69 (fun H locs hP hD hS => ?_)
  have hP : va_P D vwCl [(a0, .inr (7, [.int 0, .ref a_w, .ref a_kept, .ref a_copy, .int 0, .int 0, .ref a_near, .ref a_isDone, .ref a_lane, .ref a_position, .ref a_least, .null, .null, .null, .null])), rI cI a_w 2450 (fun _ => 0), rI cI a_kept 19600 (fun _ => 0), rI cI a_copy 2450 (fun _ => 0), rI cI a_near 48 (fun _ => 0), rI cZ a_isDone 40 (fun _ => 0), rI cI a_lane 11 (fun _ => 0), rI cI a_position 11 (fun _ => 0), rI cI a_least 10240 (fun _ => 0)] H := hP
  have hD : va_D A [(a0, .inr (7, [.int 0, .ref a_w, .ref a_kept, .ref a_copy, .int 0, .int 0, .ref a_near, .ref a_isDone, .ref a_lane, .ref a_position, .ref a_least, .null, .null, .null, .null])), rI cI a_w 2450 (fun _ => 0), rI cI a_kept 19600 (fun _ => 0), rI cI a_copy 2450 (fun _ => 0), rI cI a_near 48 (fun _ => 0), rI cZ a_isDone 40 (fun _ => 0), rI cI a_lane 11 (fun _ => 0), rI cI a_position 11 (fun _ => 0), rI cI a_least 10240 (fun _ => 0)] := hD
  refine lv_aload_n hx hb dX8_init_72 rfl (lv_at hl 0 rfl) ?_
  refine lv_sipush (v := 256) hx hb dX8_init_73 (by decide) ?_
  refine va_newa (atype := .int) (ty := .int) (N' := 256) (a0 := (256, (.inl (fun _ => 0)))) hx hb (hts _ (mb tb_80)) rfl hK hP hD hS hA (fun _ => rfl) (by decide +kernel) (by decide +kernel) (Nat.le_of_ble_eq_true rfl) (Nat.le_of_ble_eq_true rfl) (Nat.le_of_ble_eq_true rfl) dX8_init_76 (fun a_boxesOf cN H hK1 hP hD hS => ?_)
  have hcN := (ty_one hK1 0 (by rfl) rfl).symm
  subst hcN
  have hP : va_P D vwCl [(a0, .inr (7, [.int 0, .ref a_w, .ref a_kept, .ref a_copy, .int 0, .int 0, .ref a_near, .ref a_isDone, .ref a_lane, .ref a_position, .ref a_least, .null, .null, .null, .null])), rI cI a_w 2450 (fun _ => 0), rI cI a_kept 19600 (fun _ => 0), rI cI a_copy 2450 (fun _ => 0), rI cI a_near 48 (fun _ => 0), rI cZ a_isDone 40 (fun _ => 0), rI cI a_lane 11 (fun _ => 0), rI cI a_position 11 (fun _ => 0), rI cI a_least 10240 (fun _ => 0), rI cI a_boxesOf 256 (fun _ => 0)] H := hP
  have hD : va_D A [(a0, .inr (7, [.int 0, .ref a_w, .ref a_kept, .ref a_copy, .int 0, .int 0, .ref a_near, .ref a_isDone, .ref a_lane, .ref a_position, .ref a_least, .null, .null, .null, .null])), rI cI a_w 2450 (fun _ => 0), rI cI a_kept 19600 (fun _ => 0), rI cI a_copy 2450 (fun _ => 0), rI cI a_near 48 (fun _ => 0), rI cZ a_isDone 40 (fun _ => 0), rI cI a_lane 11 (fun _ => 0), rI cI a_position 11 (fun _ => 0), rI cI a_least 10240 (fun _ => 0), rI cI a_boxesOf 256 (fun _ => 0)] := hD
  refine W.widen (k := 9) (n := 35106) (Nat.le_of_ble_eq_true rfl) (Nat.le_of_ble_eq_true rfl) ?_
  refine va_putF (D := D) (ci := 7) (v := .ref a_boxesOf) (ty := .array .int) (C := RX8) (T := TX8) (N := 15) hx hb hts (fun w h => mb (iX8 w h)) tyX8 tyX8_ok nmX8 hown hK hP hD hS 0 rfl rfl 11 (by decide) (hts _ (mb tb_1107)) (fun _ h9 => h9) rfl hin rfl (by decide +kernel) rfl rfl (Nat.le_of_ble_eq_true rfl) dX8_init_78 (fun H locs hP hD hS => ?_)
  have hP : va_P D vwCl [(a0, .inr (7, [.int 0, .ref a_w, .ref a_kept, .ref a_copy, .int 0, .int 0, .ref a_near, .ref a_isDone, .ref a_lane, .ref a_position, .ref a_least, .ref a_boxesOf, .null, .null, .null])), rI cI a_w 2450 (fun _ => 0), rI cI a_kept 19600 (fun _ => 0), rI cI a_copy 2450 (fun _ => 0), rI cI a_near 48 (fun _ => 0), rI cZ a_isDone 40 (fun _ => 0), rI cI a_lane 11 (fun _ => 0), rI cI a_position 11 (fun _ => 0), rI cI a_least 10240 (fun _ => 0), rI cI a_boxesOf 256 (fun _ => 0)] H := hP
  have hD : va_D A [(a0, .inr (7, [.int 0, .ref a_w, .ref a_kept, .ref a_copy, .int 0, .int 0, .ref a_near, .ref a_isDone, .ref a_lane, .ref a_position, .ref a_least, .ref a_boxesOf, .null, .null, .null])), rI cI a_w 2450 (fun _ => 0), rI cI a_kept 19600 (fun _ => 0), rI cI a_copy 2450 (fun _ => 0), rI cI a_near 48 (fun _ => 0), rI cZ a_isDone 40 (fun _ => 0), rI cI a_lane 11 (fun _ => 0), rI cI a_position 11 (fun _ => 0), rI cI a_least 10240 (fun _ => 0), rI cI a_boxesOf 256 (fun _ => 0)] := hD
  refine lv_aload_n hx hb dX8_init_81 rfl (lv_at hl 0 rfl) ?_
  refine lv_sipush (v := 366) hx hb dX8_init_82 (by decide) ?_
  refine va_newa (atype := .long) (ty := .long) (N' := 366) (a0 := (366, (.inr (.inl (fun _ => 0))))) hx hb (hts _ (mb tb_224)) rfl hK hP hD hS hA (fun _ => rfl) (by decide +kernel) (by decide +kernel) (Nat.le_of_ble_eq_true rfl) (Nat.le_of_ble_eq_true rfl) (Nat.le_of_ble_eq_true rfl) dX8_init_85 (fun a_staying cN H hK1 hP hD hS => ?_)
  have hcN := (ty_one hK1 1 (by rfl) rfl).symm
  subst hcN
  have hP : va_P D vwCl [(a0, .inr (7, [.int 0, .ref a_w, .ref a_kept, .ref a_copy, .int 0, .int 0, .ref a_near, .ref a_isDone, .ref a_lane, .ref a_position, .ref a_least, .ref a_boxesOf, .null, .null, .null])), rI cI a_w 2450 (fun _ => 0), rI cI a_kept 19600 (fun _ => 0), rI cI a_copy 2450 (fun _ => 0), rI cI a_near 48 (fun _ => 0), rI cZ a_isDone 40 (fun _ => 0), rI cI a_lane 11 (fun _ => 0), rI cI a_position 11 (fun _ => 0), rI cI a_least 10240 (fun _ => 0), rI cI a_boxesOf 256 (fun _ => 0), rJ cJ a_staying 366 (fun _ => 0)] H := hP
  have hD : va_D A [(a0, .inr (7, [.int 0, .ref a_w, .ref a_kept, .ref a_copy, .int 0, .int 0, .ref a_near, .ref a_isDone, .ref a_lane, .ref a_position, .ref a_least, .ref a_boxesOf, .null, .null, .null])), rI cI a_w 2450 (fun _ => 0), rI cI a_kept 19600 (fun _ => 0), rI cI a_copy 2450 (fun _ => 0), rI cI a_near 48 (fun _ => 0), rI cZ a_isDone 40 (fun _ => 0), rI cI a_lane 11 (fun _ => 0), rI cI a_position 11 (fun _ => 0), rI cI a_least 10240 (fun _ => 0), rI cI a_boxesOf 256 (fun _ => 0), rJ cJ a_staying 366 (fun _ => 0)] := hD
  refine W.widen (k := 10) (n := 35472) (Nat.le_of_ble_eq_true rfl) (Nat.le_of_ble_eq_true rfl) ?_
  refine va_putF (D := D) (ci := 7) (v := .ref a_staying) (ty := .array .long) (C := RX8) (T := TX8) (N := 15) hx hb hts (fun w h => mb (iX8 w h)) tyX8 tyX8_ok nmX8 hown hK hP hD hS 0 rfl rfl 12 (by decide) (hts _ (mb tb_1108)) (fun _ h9 => h9) rfl hin rfl (by decide +kernel) rfl rfl (Nat.le_of_ble_eq_true rfl) dX8_init_87 (fun H locs hP hD hS => ?_)
  have hP : va_P D vwCl [(a0, .inr (7, [.int 0, .ref a_w, .ref a_kept, .ref a_copy, .int 0, .int 0, .ref a_near, .ref a_isDone, .ref a_lane, .ref a_position, .ref a_least, .ref a_boxesOf, .ref a_staying, .null, .null])), rI cI a_w 2450 (fun _ => 0), rI cI a_kept 19600 (fun _ => 0), rI cI a_copy 2450 (fun _ => 0), rI cI a_near 48 (fun _ => 0), rI cZ a_isDone 40 (fun _ => 0), rI cI a_lane 11 (fun _ => 0), rI cI a_position 11 (fun _ => 0), rI cI a_least 10240 (fun _ => 0), rI cI a_boxesOf 256 (fun _ => 0), rJ cJ a_staying 366 (fun _ => 0)] H := hP
  have hD : va_D A [(a0, .inr (7, [.int 0, .ref a_w, .ref a_kept, .ref a_copy, .int 0, .int 0, .ref a_near, .ref a_isDone, .ref a_lane, .ref a_position, .ref a_least, .ref a_boxesOf, .ref a_staying, .null, .null])), rI cI a_w 2450 (fun _ => 0), rI cI a_kept 19600 (fun _ => 0), rI cI a_copy 2450 (fun _ => 0), rI cI a_near 48 (fun _ => 0), rI cZ a_isDone 40 (fun _ => 0), rI cI a_lane 11 (fun _ => 0), rI cI a_position 11 (fun _ => 0), rI cI a_least 10240 (fun _ => 0), rI cI a_boxesOf 256 (fun _ => 0), rJ cJ a_staying 366 (fun _ => 0)] := hD
  refine lv_aload_n hx hb dX8_init_90 rfl (lv_at hl 0 rfl) ?_
  refine lv_sipush (v := 366) hx hb dX8_init_91 (by decide) ?_
  refine va_newa (atype := .long) (ty := .long) (N' := 366) (a0 := (366, (.inr (.inl (fun _ => 0))))) hx hb (hts _ (mb tb_224)) rfl hK hP hD hS hA (fun _ => rfl) (by decide +kernel) (by decide +kernel) (Nat.le_of_ble_eq_true rfl) (Nat.le_of_ble_eq_true rfl) (Nat.le_of_ble_eq_true rfl) dX8_init_94 (fun a_planned cN H hK1 hP hD hS => ?_)
  have hcN := (ty_one hK1 1 (by rfl) rfl).symm
  subst hcN
  have hP : va_P D vwCl [(a0, .inr (7, [.int 0, .ref a_w, .ref a_kept, .ref a_copy, .int 0, .int 0, .ref a_near, .ref a_isDone, .ref a_lane, .ref a_position, .ref a_least, .ref a_boxesOf, .ref a_staying, .null, .null])), rI cI a_w 2450 (fun _ => 0), rI cI a_kept 19600 (fun _ => 0), rI cI a_copy 2450 (fun _ => 0), rI cI a_near 48 (fun _ => 0), rI cZ a_isDone 40 (fun _ => 0), rI cI a_lane 11 (fun _ => 0), rI cI a_position 11 (fun _ => 0), rI cI a_least 10240 (fun _ => 0), rI cI a_boxesOf 256 (fun _ => 0), rJ cJ a_staying 366 (fun _ => 0), rJ cJ a_planned 366 (fun _ => 0)] H := hP
  have hD : va_D A [(a0, .inr (7, [.int 0, .ref a_w, .ref a_kept, .ref a_copy, .int 0, .int 0, .ref a_near, .ref a_isDone, .ref a_lane, .ref a_position, .ref a_least, .ref a_boxesOf, .ref a_staying, .null, .null])), rI cI a_w 2450 (fun _ => 0), rI cI a_kept 19600 (fun _ => 0), rI cI a_copy 2450 (fun _ => 0), rI cI a_near 48 (fun _ => 0), rI cZ a_isDone 40 (fun _ => 0), rI cI a_lane 11 (fun _ => 0), rI cI a_position 11 (fun _ => 0), rI cI a_least 10240 (fun _ => 0), rI cI a_boxesOf 256 (fun _ => 0), rJ cJ a_staying 366 (fun _ => 0), rJ cJ a_planned 366 (fun _ => 0)] := hD
  refine W.widen (k := 11) (n := 35838) (Nat.le_of_ble_eq_true rfl) (Nat.le_of_ble_eq_true rfl) ?_
  refine va_putF (D := D) (ci := 7) (v := .ref a_planned) (ty := .array .long) (C := RX8) (T := TX8) (N := 15) hx hb hts (fun w h => mb (iX8 w h)) tyX8 tyX8_ok nmX8 hown hK hP hD hS 0 rfl rfl 13 (by decide) (hts _ (mb tb_1109)) (fun _ h9 => h9) rfl hin rfl (by decide +kernel) rfl rfl (Nat.le_of_ble_eq_true rfl) dX8_init_96 (fun H locs hP hD hS => ?_)
  have hP : va_P D vwCl [(a0, .inr (7, [.int 0, .ref a_w, .ref a_kept, .ref a_copy, .int 0, .int 0, .ref a_near, .ref a_isDone, .ref a_lane, .ref a_position, .ref a_least, .ref a_boxesOf, .ref a_staying, .ref a_planned, .null])), rI cI a_w 2450 (fun _ => 0), rI cI a_kept 19600 (fun _ => 0), rI cI a_copy 2450 (fun _ => 0), rI cI a_near 48 (fun _ => 0), rI cZ a_isDone 40 (fun _ => 0), rI cI a_lane 11 (fun _ => 0), rI cI a_position 11 (fun _ => 0), rI cI a_least 10240 (fun _ => 0), rI cI a_boxesOf 256 (fun _ => 0), rJ cJ a_staying 366 (fun _ => 0), rJ cJ a_planned 366 (fun _ => 0)] H := hP
  have hD : va_D A [(a0, .inr (7, [.int 0, .ref a_w, .ref a_kept, .ref a_copy, .int 0, .int 0, .ref a_near, .ref a_isDone, .ref a_lane, .ref a_position, .ref a_least, .ref a_boxesOf, .ref a_staying, .ref a_planned, .null])), rI cI a_w 2450 (fun _ => 0), rI cI a_kept 19600 (fun _ => 0), rI cI a_copy 2450 (fun _ => 0), rI cI a_near 48 (fun _ => 0), rI cZ a_isDone 40 (fun _ => 0), rI cI a_lane 11 (fun _ => 0), rI cI a_position 11 (fun _ => 0), rI cI a_least 10240 (fun _ => 0), rI cI a_boxesOf 256 (fun _ => 0), rJ cJ a_staying 366 (fun _ => 0), rJ cJ a_planned 366 (fun _ => 0)] := hD
  refine lv_aload_n hx hb dX8_init_99 rfl (lv_at hl 0 rfl) ?_
  refine lv_bipush (v := 6) hx hb dX8_init_100 (by decide) ?_
  refine va_newa (atype := .long) (ty := .long) (N' := 6) (a0 := (6, (.inr (.inl (fun _ => 0))))) hx hb (hts _ (mb tb_224)) rfl hK hP hD hS hA (fun _ => rfl) (by decide +kernel) (by decide +kernel) (Nat.le_of_ble_eq_true rfl) (Nat.le_of_ble_eq_true rfl) (Nat.le_of_ble_eq_true rfl) dX8_init_102 (fun a_scale cN H hK1 hP hD hS => ?_)
  have hcN := (ty_one hK1 1 (by rfl) rfl).symm
  subst hcN
  have hP : va_P D vwCl [(a0, .inr (7, [.int 0, .ref a_w, .ref a_kept, .ref a_copy, .int 0, .int 0, .ref a_near, .ref a_isDone, .ref a_lane, .ref a_position, .ref a_least, .ref a_boxesOf, .ref a_staying, .ref a_planned, .null])), rI cI a_w 2450 (fun _ => 0), rI cI a_kept 19600 (fun _ => 0), rI cI a_copy 2450 (fun _ => 0), rI cI a_near 48 (fun _ => 0), rI cZ a_isDone 40 (fun _ => 0), rI cI a_lane 11 (fun _ => 0), rI cI a_position 11 (fun _ => 0), rI cI a_least 10240 (fun _ => 0), rI cI a_boxesOf 256 (fun _ => 0), rJ cJ a_staying 366 (fun _ => 0), rJ cJ a_planned 366 (fun _ => 0), rJ cJ a_scale 6 (fun _ => 0)] H := hP
  have hD : va_D A [(a0, .inr (7, [.int 0, .ref a_w, .ref a_kept, .ref a_copy, .int 0, .int 0, .ref a_near, .ref a_isDone, .ref a_lane, .ref a_position, .ref a_least, .ref a_boxesOf, .ref a_staying, .ref a_planned, .null])), rI cI a_w 2450 (fun _ => 0), rI cI a_kept 19600 (fun _ => 0), rI cI a_copy 2450 (fun _ => 0), rI cI a_near 48 (fun _ => 0), rI cZ a_isDone 40 (fun _ => 0), rI cI a_lane 11 (fun _ => 0), rI cI a_position 11 (fun _ => 0), rI cI a_least 10240 (fun _ => 0), rI cI a_boxesOf 256 (fun _ => 0), rJ cJ a_staying 366 (fun _ => 0), rJ cJ a_planned 366 (fun _ => 0), rJ cJ a_scale 6 (fun _ => 0)] := hD
  refine W.widen (k := 12) (n := 35844) (Nat.le_of_ble_eq_true rfl) (Nat.le_of_ble_eq_true rfl) ?_
  refine va_putF (D := D) (ci := 7) (v := .ref a_scale) (ty := .array .long) (C := RX8) (T := TX8) (N := 15) hx hb hts (fun w h => mb (iX8 w h)) tyX8 tyX8_ok nmX8 hown hK hP hD hS 0 rfl rfl 14 (by decide) (hts _ (mb tb_1110)) (fun _ h9 => h9) rfl hin rfl (by decide +kernel) rfl rfl (Nat.le_of_ble_eq_true rfl) dX8_init_104 (fun H locs hP hD hS => ?_)
  have hP : va_P D vwCl [(a0, .inr (7, [.int 0, .ref a_w, .ref a_kept, .ref a_copy, .int 0, .int 0, .ref a_near, .ref a_isDone, .ref a_lane, .ref a_position, .ref a_least, .ref a_boxesOf, .ref a_staying, .ref a_planned, .ref a_scale])), rI cI a_w 2450 (fun _ => 0), rI cI a_kept 19600 (fun _ => 0), rI cI a_copy 2450 (fun _ => 0), rI cI a_near 48 (fun _ => 0), rI cZ a_isDone 40 (fun _ => 0), rI cI a_lane 11 (fun _ => 0), rI cI a_position 11 (fun _ => 0), rI cI a_least 10240 (fun _ => 0), rI cI a_boxesOf 256 (fun _ => 0), rJ cJ a_staying 366 (fun _ => 0), rJ cJ a_planned 366 (fun _ => 0), rJ cJ a_scale 6 (fun _ => 0)] H := hP
  have hD : va_D A [(a0, .inr (7, [.int 0, .ref a_w, .ref a_kept, .ref a_copy, .int 0, .int 0, .ref a_near, .ref a_isDone, .ref a_lane, .ref a_position, .ref a_least, .ref a_boxesOf, .ref a_staying, .ref a_planned, .ref a_scale])), rI cI a_w 2450 (fun _ => 0), rI cI a_kept 19600 (fun _ => 0), rI cI a_copy 2450 (fun _ => 0), rI cI a_near 48 (fun _ => 0), rI cZ a_isDone 40 (fun _ => 0), rI cI a_lane 11 (fun _ => 0), rI cI a_position 11 (fun _ => 0), rI cI a_least 10240 (fun _ => 0), rI cI a_boxesOf 256 (fun _ => 0), rJ cJ a_staying 366 (fun _ => 0), rJ cJ a_planned 366 (fun _ => 0), rJ cJ a_scale 6 (fun _ => 0)] := hD
  have hP := hP.sub (ws' := [oX8 a0 0 a_w a_kept a_copy 0 0 a_near a_isDone a_lane a_position a_least a_boxesOf a_staying a_planned a_scale, rI cI a_w 2450 (fun _ => 0), rI cI a_kept 19600 (fun _ => 0), rI cI a_copy 2450 (fun _ => 0), rI cI a_near 48 (fun _ => 0), rI cZ a_isDone 40 (fun _ => 0), rI cI a_lane 11 (fun _ => 0), rI cI a_position 11 (fun _ => 0), rI cI a_least 10240 (fun _ => 0), rI cI a_boxesOf 256 (fun _ => 0), rJ cJ a_staying 366 (fun _ => 0), rJ cJ a_planned 366 (fun _ => 0), rJ cJ a_scale 6 (fun _ => 0)]) [0, 1, 2, 3, 4, 5, 6, 7, 8, 9, 10, 11, 12] rfl
  have hD := hD.sub (ws' := [oX8 a0 0 a_w a_kept a_copy 0 0 a_near a_isDone a_lane a_position a_least a_boxesOf a_staying a_planned a_scale, rI cI a_w 2450 (fun _ => 0), rI cI a_kept 19600 (fun _ => 0), rI cI a_copy 2450 (fun _ => 0), rI cI a_near 48 (fun _ => 0), rI cZ a_isDone 40 (fun _ => 0), rI cI a_lane 11 (fun _ => 0), rI cI a_position 11 (fun _ => 0), rI cI a_least 10240 (fun _ => 0), rI cI a_boxesOf 256 (fun _ => 0), rJ cJ a_staying 366 (fun _ => 0), rJ cJ a_planned 366 (fun _ => 0), rJ cJ a_scale 6 (fun _ => 0)]) [0, 1, 2, 3, 4, 5, 6, 7, 8, 9, 10, 11, 12] rfl rfl
  unfold f_X8_init at hf
  refine gen_goW (fun WW hWW => ?_)
  have hL118 : ∀ (n : Nat) (c_near : Nat → Int32) (n1 : Int32) (c_w : Nat → Int32) (e_c_w : Nat → Int32), loop (fun z => f_X8_init_L118 c_near z.1 z.2) n (n1, c_w) = some e_c_w → (∀ (H : Heap) (locs : List Loc) (ls : Array Slot), va_P D vwCl [oX8 a0 0 a_w a_kept a_copy 0 0 a_near a_isDone a_lane a_position a_least a_boxesOf a_staying a_planned a_scale, rI cI a_w 2450 e_c_w, rI cI a_kept 19600 (fun _ => 0), rI cI a_copy 2450 (fun _ => 0), rI cI a_near 48 c_near, rI cZ a_isDone 40 (fun _ => 0), rI cI a_lane 11 (fun _ => 0), rI cI a_position 11 (fun _ => 0), rI cI a_least 10240 (fun _ => 0), rI cI a_boxesOf 256 (fun _ => 0), rJ cJ a_staying 366 (fun _ => 0), rJ cJ a_planned 366 (fun _ => 0), rJ cJ a_scale 6 (fun _ => 0)] H → va_D A [oX8 a0 0 a_w a_kept a_copy 0 0 a_near a_isDone a_lane a_position a_least a_boxesOf a_staying a_planned a_scale, rI cI a_w 2450 e_c_w, rI cI a_kept 19600 (fun _ => 0), rI cI a_copy 2450 (fun _ => 0), rI cI a_near 48 c_near, rI cZ a_isDone 40 (fun _ => 0), rI cI a_lane 11 (fun _ => 0), rI cI a_position 11 (fun _ => 0), rI cI a_least 10240 (fun _ => 0), rI cI a_boxesOf 256 (fun _ => 0), rJ cJ a_staying 366 (fun _ => 0), rJ cJ a_planned 366 (fun _ => 0), rJ cJ a_scale 6 (fun _ => 0)] → va_S A s.heap H locs → lv_has ls 2 [(0, .ref a0)] → WW H locs 12 35844 (F0 m 140 ls [])) → ∀ (H : Heap) (locs : List Loc) (ls : Array Slot), va_P D vwCl [oX8 a0 0 a_w a_kept a_copy 0 0 a_near a_isDone a_lane a_position a_least a_boxesOf a_staying a_planned a_scale, rI cI a_w 2450 c_w, rI cI a_kept 19600 (fun _ => 0), rI cI a_copy 2450 (fun _ => 0), rI cI a_near 48 c_near, rI cZ a_isDone 40 (fun _ => 0), rI cI a_lane 11 (fun _ => 0), rI cI a_position 11 (fun _ => 0), rI cI a_least 10240 (fun _ => 0), rI cI a_boxesOf 256 (fun _ => 0), rJ cJ a_staying 366 (fun _ => 0), rJ cJ a_planned 366 (fun _ => 0), rJ cJ a_scale 6 (fun _ => 0)] H → va_D A [oX8 a0 0 a_w a_kept a_copy 0 0 a_near a_isDone a_lane a_position a_least a_boxesOf a_staying a_planned a_scale, rI cI a_w 2450 c_w, rI cI a_kept 19600 (fun _ => 0), rI cI a_copy 2450 (fun _ => 0), rI cI a_near 48 c_near, rI cZ a_isDone 40 (fun _ => 0), rI cI a_lane 11 (fun _ => 0), rI cI a_position 11 (fun _ => 0), rI cI a_least 10240 (fun _ => 0), rI cI a_boxesOf 256 (fun _ => 0), rJ cJ a_staying 366 (fun _ => 0), rJ cJ a_planned 366 (fun _ => 0), rJ cJ a_scale 6 (fun _ => 0)] → va_S A s.heap H locs → lv_has ls 2 [(0, .ref a0), (1, .int n1)] → WW H locs 12 35844 (F0 m 118 ls []) := by
    intro n
    induction n with
    | zero =>
      intro c_near n1 c_w e_c_w hlp
      exact absurd hlp (by simp [loop])
    | succ n ih =>
      intro c_near n1 c_w e_c_w hlp K H locs ls hP hD hS hl
      obtain ⟨x9, hf, hlp⟩ := loop_s hlp
      have hf : f_X8_init_L118 c_near n1 c_w = some x9 := hf
      unfold f_X8_init_L118 at hf
      refine (hWW _ _ _ _ _).mpr ?_
      refine lv_iload_n hx hb dX8_init_118 rfl (lv_at hl 1 rfl) ?_
      refine lv_iconst (v := 5) hx hb dX8_init_119 (by decide) ?_
      refine lv_icmp_ge (tgt := 140) hx hb dX8_init_120 (by decide) (fun h5 => ?_) (fun h5 => ?_)
      · have hf := ipos h5 hf
        obtain rfl := Option.some.inj hf
        cases lpx_r hlp
        exact (hWW _ _ _ _ _).mp (K _ _ ls hP hD hS (lv_sub hl [0] rfl))
      · have hf := ineg h5 hf
        refine lv_aload_n hx hb dX8_init_123 rfl (lv_at hl 0 rfl) ?_
        refine va_get (D := D) (ci := 7) (v := .ref a_w) (C := RX8) (T := TX8) (N := 15) hx hb hts (fun w h => mb (iX8 w h)) hown hK hP 0 rfl rfl 1 (by decide) (hts _ (mb tb_1097)) (fun _ h9 => h9) rfl dX8_init_124 ?_
        refine lv_sipush (v := 2432) hx hb dX8_init_127 (by decide) ?_
        refine lv_iload_n hx hb dX8_init_130 rfl (lv_at hl 1 rfl) ?_
        refine lv_iadd hx hb dX8_init_131 ?_
        refine lv_iconst (v := 1) hx hb dX8_init_132 (by decide) ?_
        obtain ⟨h6, hf⟩ := ob_d hf
        refine va_iast hx hb hK hP hD hS 1 0 rfl rfl h6 dX8_init_133 (fun H locs hP hD hS => ?_)
        have hP : va_P D vwCl [oX8 a0 0 a_w a_kept a_copy 0 0 a_near a_isDone a_lane a_position a_least a_boxesOf a_staying a_planned a_scale, rI cI a_w 2450 (upd c_w (2432 + n1).toNatClampNeg 1), rI cI a_kept 19600 (fun _ => 0), rI cI a_copy 2450 (fun _ => 0), rI cI a_near 48 c_near, rI cZ a_isDone 40 (fun _ => 0), rI cI a_lane 11 (fun _ => 0), rI cI a_position 11 (fun _ => 0), rI cI a_least 10240 (fun _ => 0), rI cI a_boxesOf 256 (fun _ => 0), rJ cJ a_staying 366 (fun _ => 0), rJ cJ a_planned 366 (fun _ => 0), rJ cJ a_scale 6 (fun _ => 0)] H := hP
        have hD : va_D A [oX8 a0 0 a_w a_kept a_copy 0 0 a_near a_isDone a_lane a_position a_least a_boxesOf a_staying a_planned a_scale, rI cI a_w 2450 (upd c_w (2432 + n1).toNatClampNeg 1), rI cI a_kept 19600 (fun _ => 0), rI cI a_copy 2450 (fun _ => 0), rI cI a_near 48 c_near, rI cZ a_isDone 40 (fun _ => 0), rI cI a_lane 11 (fun _ => 0), rI cI a_position 11 (fun _ => 0), rI cI a_least 10240 (fun _ => 0), rI cI a_boxesOf 256 (fun _ => 0), rJ cJ a_staying 366 (fun _ => 0), rJ cJ a_planned 366 (fun _ => 0), rJ cJ a_scale 6 (fun _ => 0)] := hD
        refine lv_iinc (v := (n1 + 1)) (lv' := [(1, .int (n1 + 1)), (0, .ref a0)]) hx hb dX8_init_134 hl (k := 1) rfl rfl (by decide) rfl (fun ls hl => ?_)
        refine lv_goto (tgt := 118) hx hb dX8_init_137 (by decide) ?_
        obtain rfl := Option.some.inj hf
        exact (hWW _ _ _ _ _).mp (ih _ _ _ _ hlp K _ _ ls hP hD hS (lv_sub hl [1, 0] rfl))
  refine (hWW _ _ _ _ _).mpr ?_
  refine lv_aload_n hx hb dX8_init_107 rfl (lv_at hl 0 rfl) ?_
  refine lv_iconst (v := 3) hx hb dX8_init_108 (by decide) ?_
  refine lv_iconst (v := 4) hx hb dX8_init_109 (by decide) ?_
  refine lv_bipush (v := 6) hx hb dX8_init_110 (by decide) ?_
  refine lv_iconst (v := 2) hx hb dX8_init_112 (by decide) ?_
  obtain ⟨o3, o4, hc2, hf⟩ := ob2 hf
  refine rw_callv (va_runV (As := [.int 3, .int 4, .int 6, .int 2]) (rest := []) ⟨hx, hb, hml, hown, hts⟩ (k_X8_begins l hl0 D cI cJ cZ cS B0 H.size a0 a_w a_kept a_copy a_near a_isDone a_lane a_position a_least a_boxesOf a_staying a_planned a_scale 0 0 0 (fun _ => 0) (fun _ => 0) 3 4 6 2 o3 o4 hc2) (cwV 4 hts (gV tb_1068 tb_1070 ts_28 tb_9 tb_1071) rfl rfl rfl (by decide +kernel) ⟨Nat.le_of_ble_eq_true rfl, Nat.le_of_ble_eq_true rfl⟩) ⟨wp_blind, va_recv hK hP (ci := 7) (q0 := 0) rfl rfl, wp_pre (hP.sub [0, 1, 4] rfl) hK (va_D.sub (hD.weaken (fun _ _ _ h9 => hAB _ h9)) [0, 1, 4] rfl rfl) (hBn _ _ hS) (hEn _ _ hS)⟩ rfl rfl hl.1 rfl (lv_room (Nat.le_of_ble_eq_true rfl)) dX8_init_113 ⟨Nat.le_of_ble_eq_true rfl, Nat.le_of_ble_eq_true rfl⟩) hP hD hS hA [oX8 a0 0 a_w a_kept a_copy 0 0 a_near a_isDone a_lane a_position a_least a_boxesOf a_staying a_planned a_scale, rI cI a_w 2450 o3, rI cI a_kept 19600 (fun _ => 0), rI cI a_copy 2450 (fun _ => 0), rI cI a_near 48 o4, rI cZ a_isDone 40 (fun _ => 0), rI cI a_lane 11 (fun _ => 0), rI cI a_position 11 (fun _ => 0), rI cI a_least 10240 (fun _ => 0), rI cI a_boxesOf 256 (fun _ => 0), rJ cJ a_staying 366 (fun _ => 0), rJ cJ a_planned 366 (fun _ => 0), rJ cJ a_scale 6 (fun _ => 0)] 13 [0, 1, 4] [2, 3, 5, 6, 7, 8, 9, 10, 11, 12] rfl rfl rfl rfl (by decide +kernel) rfl (fun H locs hP hD hS => ?_)
  refine lv_iconst (v := 0) hx hb dX8_init_116 (by decide) ?_
  refine lv_istore_n (lv' := [(1, .int 0), (0, .ref a0)]) hx hb dX8_init_117 rfl hl (by decide) rfl (fun ls hl => ?_)
  obtain ⟨c8, hc7, hf⟩ := ob1 hf
  refine (hWW _ _ _ _ _).mp (hL118 fu _ _ _ _ hc7 (fun H locs ls hP hD hS hl => ?_) _ _ ls hP hD hS (lv_sub hl [1, 0] rfl))
  · refine (hWW _ _ _ _ _).mpr ?_
    refine lv_aload_n hx hb dX8_init_140 rfl (lv_at hl 0 rfl) ?_
    refine lv_bipush (v := 10) hx hb dX8_init_141 (by decide) ?_
    refine lv_iconst (v := 2) hx hb dX8_init_143 (by decide) ?_
    refine lv_iconst (v := 1) hx hb dX8_init_144 (by decide) ?_
    refine lv_bipush (v := 9) hx hb dX8_init_145 (by decide) ?_
    refine lv_bipush (v := 10) hx hb dX8_init_147 (by decide) ?_
    obtain ⟨o11, hc10, hf⟩ := ob1 hf
    refine rw_callv (va_runV (As := [.int 10, .int 2, .int 1, .int 9, .int 10]) (rest := []) ⟨hx, hb, hml, hown, hts⟩ (k_X8_costs l hl0 D cI cJ cZ cS B0 H.size a0 a_w a_kept a_copy a_near a_isDone a_lane a_position a_least a_boxesOf a_staying a_planned a_scale 0 0 0 c8 10 2 1 9 10 o11 hc10) (cwV 5 hts (gV tb_1092 tb_1094 ts_34 tb_9 tb_1095) rfl rfl rfl (by decide +kernel) ⟨Nat.le_of_ble_eq_true rfl, Nat.le_of_ble_eq_true rfl⟩) ⟨wp_blind, va_recv hK hP (ci := 7) (q0 := 0) rfl rfl, wp_pre (hP.sub [0, 1] rfl) hK (va_D.sub (hD.weaken (fun _ _ _ h9 => hAB _ h9)) [0, 1] rfl rfl) (hBn _ _ hS) (hEn _ _ hS)⟩ rfl rfl hl.1 rfl (lv_room (Nat.le_of_ble_eq_true rfl)) dX8_init_149 ⟨Nat.le_of_ble_eq_true rfl, Nat.le_of_ble_eq_true rfl⟩) hP hD hS hA [oX8 a0 0 a_w a_kept a_copy 0 0 a_near a_isDone a_lane a_position a_least a_boxesOf a_staying a_planned a_scale, rI cI a_w 2450 o11, rI cI a_kept 19600 (fun _ => 0), rI cI a_copy 2450 (fun _ => 0), rI cI a_near 48 o4, rI cZ a_isDone 40 (fun _ => 0), rI cI a_lane 11 (fun _ => 0), rI cI a_position 11 (fun _ => 0), rI cI a_least 10240 (fun _ => 0), rI cI a_boxesOf 256 (fun _ => 0), rJ cJ a_staying 366 (fun _ => 0), rJ cJ a_planned 366 (fun _ => 0), rJ cJ a_scale 6 (fun _ => 0)] 13 [0, 1] [2, 3, 4, 5, 6, 7, 8, 9, 10, 11, 12] rfl rfl rfl rfl (by decide +kernel) rfl (fun H locs hP hD hS => ?_)
    cases hf
    refine W.widen (k := 12) (n := 35844) (Nat.le_of_ble_eq_true rfl) (Nat.le_of_ble_eq_true rfl) ?_
    exact W.vret hx hb hr (fun t ht hW => ⟨⟨fun k => [a_w, a_kept, a_copy, a_near, a_isDone, a_lane, a_position, a_least, a_boxesOf, a_staying, a_planned, a_scale].getD k 0, rfl, trivial, ⟨(by rw [ht]; exact hP), hD⟩⟩, hS.F ht⟩) hS.2.2 dX8_init_152
