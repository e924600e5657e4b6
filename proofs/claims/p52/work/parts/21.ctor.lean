theorem ty_one {D : va_G} {cI cJ cZ cS cN : ClassId} {ty : FieldType} {s : State} (h : va_K D vwCl (gTY cI cJ cZ cS ++ [(cN, ty)]) s) (k : Nat) {cO : ClassId} (hk : (gTY cI cJ cZ cS)[k]? = some (cO, ty)) (hk4 : (gTY cI cJ cZ cS ++ [(cN, ty)])[4]? = some (cN, ty)) : cN = cO := by
  have h1 := (h.2 4 _ hk4).2
  have h2 := (h.2 k _ (by rw [List.getElem?_append_left (List.getElem?_eq_some_iff.mp hk).1]; exact hk)).2
  cases ty with
  | object C =>
    obtain ⟨_, _, -, -, -, e1⟩ := h1
    obtain ⟨_, _, -, -, -, e2⟩ := h2
    exact Option.some.inj (e1.symm.trans e2)
  | _ => exact Option.some.inj (Eq.trans (Eq.symm h1) h2)
theorem gI {y0 : MethodName} {c0 : ByteArray} {n0 : Nat} {r0 : Option FieldType} {y : MethodName} {c : ByteArray} {n : Nat} {r : Option FieldType} (h5 : Cond.code y c n r ∈ wBIG) : GoodIn (wz y0 c0 n0 r0) (wz y c n r) := gW1 fun w hw => (List.mem_cons.mp hw).elim (fun e => e ▸ h5) id
set_option maxHeartbeats 4000000 in
set_option maxRecDepth 100000 in
theorem k_X1_init (l : Launch) (hl0 : l.stackTraces = false) (D : va_G) (cI cJ cZ cS : ClassId) (B0 : Nat) (sz : Nat) (a0 : Nat) : Met l yX1_init (wz yX1_init cX1_init 1 none) ({ frames := 1, cells := 5, slots := 120, locals := 40 }) (va_Pc [.ref a0] (wp D cI cJ cZ cS B0 [(a0, .inr (0, [.int 0, .null, .null, .null, .null, .null]))] sz)) (va_Qv (fun (_ : Nat → Nat) => True) (fun q t => va_P D vwCl [oX1 a0 0 (q 0) (q 1) (q 2) (q 3) (q 4), rI cI (q 0) 24 (fun _ => 0), rI cI (q 1) 24 (fun _ => 0), rI cI (q 2) 24 (fun _ => 0), rI cI (q 3) 24 (fun _ => 0), rI cI (q 4) 24 (fun _ => 0)] t.heap ∧ va_D (va_A [(a0, .inr (0, [.int 0, .null, .null, .null, .null, .null]))] sz) [oX1 a0 0 (q 0) (q 1) (q 2) (q 3) (q 4), rI cI (q 0) 24 (fun _ => 0), rI cI (q 1) 24 (fun _ => 0), rI cI (q 2) 24 (fun _ => 0), rI cI (q 3) 24 (fun _ => 0), rI cI (q 4) 24 (fun _ => 0)]) (va_A [(a0, .inr (0, [.int 0, .null, .null, .null, .null, .null]))] sz)) 5 120 (va_A [(a0, .inr (0, [.int 0, .null, .null, .null, .null, .null]))] sz) := by
  refine Met.ofW (cc := cX1_init) (maxL := 1) (ret := none) (by decide) rfl ?_
  intro p e s m args below meth c s₁ B hml hv
  obtain ⟨rfl, hsz, hP, hK, hD0, hB0, hE⟩ := hv
  subst hsz
  have hx := B.exec
  have hb := B.bytes
  have hr := B.returns
  have hts := atoms_spec (ws := (wz yX1_init cX1_init 1 none)) B.pre
  have hown : s.vm.findClass RX1 = some m.cls := findClass_of_methodNamed B.named
  have hlocks := B.notSynchronized
  have hin : meth.name = "<init>" := (name_of_methodNamed B.named B.method).1
  have hD := hD0.self (sz := s.heap.size)
  have hAB : ∀ q : Nat, va_A [(a0, .inr (0, [.int 0, .null, .null, .null, .null, .null]))] s.heap.size q → B0 ≤ q := va_A_B hD0 hB0
  generalize hAe : va_A [(a0, .inr (0, [.int 0, .null, .null, .null, .null, .null]))] s.heap.size = A at hD hAB ⊢
  have hA : ∀ q : Nat, s.heap.size ≤ q → A q := fun q h => by rw [← hAe]; exact Or.inr h
  have hS : va_S A s.heap s.heap [] := va_S.rf
  have hBn := fun (H : Heap) (locs : List Loc) (h : va_S A s.heap H locs) => Nat.le_trans hB0 h.1
  have hEn := fun (H : Heap) (locs : List Loc) (h : va_S A s.heap H locs) => gE_now hE h hAB
  have hl := lv_entry ([.ref a0]) (n := 1) (Nat.le_of_ble_eq_true rfl)
  rw [lg_entry_eq]
  generalize (lg_sl ([.ref a0]) ++ List.replicate (1 - (lg_sl ([.ref a0])).length) Slot.unset).toArray = ls at hl ⊢
  have hl : lv_has ls 1 [(0, .ref a0)] := hl
  obtain ⟨H, hHe⟩ : ∃ H : Heap, H = s.heap := ⟨_, rfl⟩
  have hP : va_P D vwCl [(a0, .inr (0, [.int 0, .null, .null, .null, .null, .null]))] H := by rw [hHe]; exact hP
  have hS : va_S A s.heap H [] := by rw [hHe]; exact hS
  refine W_heq hHe ?_
  refine lv_aload_n hx hb dX1_init_0 rfl (lv_at hl 0 rfl) ?_
  refine W.objInit hx hb hown (hts _ (mb tb_91)) (hts _ (mb tb_25)) (hts _ (mb tb_26)) rfl (by rw [hml]; exact hl.1) rfl dX1_init_1 (Nat.le_of_ble_eq_true rfl) (Nat.le_of_ble_eq_true rfl) ?_
  refine W.eq (g2 := F0 m 4 ls []) rfl ?_
  refine lv_aload_n hx hb dX1_init_4 rfl (lv_at hl 0 rfl) ?_
  refine lv_bipush (v := 24) hx hb dX1_init_5 (by decide) ?_
  refine va_newa (atype := .int) (ty := .int) (N' := 24) (a0 := (24, (.inl (fun _ => 0)))) hx hb (hts _ (mb tb_85)) rfl hK hP hD hS hA (fun _ => rfl) (by decide +kernel) (by decide +kernel) (Nat.le_of_ble_eq_true rfl) (Nat.le_of_ble_eq_true rfl) (Nat.le_of_ble_eq_true rfl) dX1_init_7 (fun a_product cN H hK1 hP hD hS => ?_)
  have hcN := (ty_one hK1 0 (by rfl) rfl).symm
  subst hcN
  have hP : va_P D vwCl [(a0, .inr (0, [.int 0, .null, .null, .null, .null, .null])), rI cI a_product 24 (fun _ => 0)] H := hP
  have hD : va_D A [(a0, .inr (0, [.int 0, .null, .null, .null, .null, .null])), rI cI a_product 24 (fun _ => 0)] := hD
  refine W.widen (k := 1) (n := 24) (Nat.le_of_ble_eq_true rfl) (Nat.le_of_ble_eq_true rfl) ?_
  refine va_putF (D := D) (ci := 0) (v := .ref a_product) (ty := .array .int) (C := RX1) (T := TX1) (N := 6) hx hb hts (fun w h => mb (iX1 w h)) tyX1 tyX1_ok nmX1 hown hK hP hD hS 0 rfl rfl 1 (by decide) (hts _ (mb tb_95)) (fun _ h9 => h9) rfl hin rfl (by decide +kernel) rfl rfl (Nat.le_of_ble_eq_true rfl) dX1_init_9 (fun H locs hP hD hS => ?_)
  have hP : va_P D vwCl [(a0, .inr (0, [.int 0, .ref a_product, .null, .null, .null, .null])), rI cI a_product 24 (fun _ => 0)] H := hP
  have hD : va_D A [(a0, .inr (0, [.int 0, .ref a_product, .null, .null, .null, .null])), rI cI a_product 24 (fun _ => 0)] := hD
  refine lv_aload_n hx hb dX1_init_12 rfl (lv_at hl 0 rfl) ?_
  refine lv_bipush (v := 24) hx hb dX1_init_13 (by decide) ?_
  refine va_newa (atype := .int) (ty := .int) (N' := 24) (a0 := (24, (.inl (fun _ => 0)))) hx hb (hts _ (mb tb_85)) rfl hK hP hD hS hA (fun _ => rfl) (by decide +kernel) (by decide +kernel) (Nat.le_of_ble_eq_true rfl) (Nat.le_of_ble_eq_true rfl) (Nat.le_of_ble_eq_true rfl) dX1_init_15 (fun a_last cN H hK1 hP hD hS => ?_)
  have hcN := (ty_one hK1 0 (by rfl) rfl).symm
  subst hcN
  have hP : va_P D vwCl [(a0, .inr (0, [.int 0, .ref a_product, .null, .null, .null, .null])), rI cI a_product 24 (fun _ => 0), rI cI a_last 24 (fun _ => 0)] H := hP
  have hD : va_D A [(a0, .inr (0, [.int 0, .ref a_product, .null, .null, .null, .null])), rI cI a_product 24 (fun _ => 0), rI cI a_last 24 (fun _ => 0)] := hD
  refine W.widen (k := 2) (n := 48) (Nat.le_of_ble_eq_true rfl) (Nat.le_of_ble_eq_true rfl) ?_
  refine va_putF (D := D) (ci := 0) (v := .ref a_last) (ty := .array .int) (C := RX1) (T := TX1) (N := 6) hx hb hts (fun w h => mb (iX1 w h)) tyX1 tyX1_ok nmX1 hown hK hP hD hS 0 rfl rfl 2 (by decide) (hts _ (mb tb_97)) (fun _ h9 => h9) rfl hin rfl (by decide +kernel) rfl rfl (Nat.le_of_ble_eq_true rfl) dX1_init_17 (fun H locs hP hD hS => ?_)
  have hP : va_P D vwCl [(a0, .inr (0, [.int 0, .ref a_product, .ref a_last, .null, .null, .null])), rI cI a_product 24 (fun _ => 0), rI cI a_last 24 (fun _ => 0)] H := hP
  have hD : va_D A [(a0, .inr (0, [.int 0, .ref a_product, .ref a_last, .null, .null, .null])), rI cI a_product 24 (fun _ => 0), rI cI a_last 24 (fun _ => 0)] := hD
  refine lv_aload_n hx hb dX1_init_20 rfl (lv_at hl 0 rfl) ?_
  refine lv_bipush (v := 24) hx hb dX1_init_21 (by decide) ?_
  refine va_newa (atype := .int) (ty := .int) (N' := 24) (a0 := (24, (.inl (fun _ => 0)))) hx hb (hts _ (mb tb_85)) rfl hK hP hD hS hA (fun _ => rfl) (by decide +kernel) (by decide +kernel) (Nat.le_of_ble_eq_true rfl) (Nat.le_of_ble_eq_true rfl) (Nat.le_of_ble_eq_true rfl) dX1_init_23 (fun a_cost cN H hK1 hP hD hS => ?_)
  have hcN := (ty_one hK1 0 (by rfl) rfl).symm
  subst hcN
  have hP : va_P D vwCl [(a0, .inr (0, [.int 0, .ref a_product, .ref a_last, .null, .null, .null])), rI cI a_product 24 (fun _ => 0), rI cI a_last 24 (fun _ => 0), rI cI a_cost 24 (fun _ => 0)] H := hP
  have hD : va_D A [(a0, .inr (0, [.int 0, .ref a_product, .ref a_last, .null, .null, .null])), rI cI a_product 24 (fun _ => 0), rI cI a_last 24 (fun _ => 0), rI cI a_cost 24 (fun _ => 0)] := hD
  refine W.widen (k := 3) (n := 72) (Nat.le_of_ble_eq_true rfl) (Nat.le_of_ble_eq_true rfl) ?_
  refine va_putF (D := D) (ci := 0) (v := .ref a_cost) (ty := .array .int) (C := RX1) (T := TX1) (N := 6) hx hb hts (fun w h => mb (iX1 w h)) tyX1 tyX1_ok nmX1 hown hK hP hD hS 0 rfl rfl 3 (by decide) (hts _ (mb tb_99)) (fun _ h9 => h9) rfl hin rfl (by decide +kernel) rfl rfl (Nat.le_of_ble_eq_true rfl) dX1_init_25 (fun H locs hP hD hS => ?_)
  have hP : va_P D vwCl [(a0, .inr (0, [.int 0, .ref a_product, .ref a_last, .ref a_cost, .null, .null])), rI cI a_product 24 (fun _ => 0), rI cI a_last 24 (fun _ => 0), rI cI a_cost 24 (fun _ => 0)] H := hP
  have hD : va_D A [(a0, .inr (0, [.int 0, .ref a_product, .ref a_last, .ref a_cost, .null, .null])), rI cI a_product 24 (fun _ => 0), rI cI a_last 24 (fun _ => 0), rI cI a_cost 24 (fun _ => 0)] := hD
  refine lv_aload_n hx hb dX1_init_28 rfl (lv_at hl 0 rfl) ?_
  refine lv_bipush (v := 24) hx hb dX1_init_29 (by decide) ?_
  refine va_newa (atype := .int) (ty := .int) (N' := 24) (a0 := (24, (.inl (fun _ => 0)))) hx hb (hts _ (mb tb_85)) rfl hK hP hD hS hA (fun _ => rfl) (by decide +kernel) (by decide +kernel) (Nat.le_of_ble_eq_true rfl) (Nat.le_of_ble_eq_true rfl) (Nat.le_of_ble_eq_true rfl) dX1_init_31 (fun a_state cN H hK1 hP hD hS => ?_)
  have hcN := (ty_one hK1 0 (by rfl) rfl).symm
  subst hcN
  have hP : va_P D vwCl [(a0, .inr (0, [.int 0, .ref a_product, .ref a_last, .ref a_cost, .null, .null])), rI cI a_product 24 (fun _ => 0), rI cI a_last 24 (fun _ => 0), rI cI a_cost 24 (fun _ => 0), rI cI a_state 24 (fun _ => 0)] H := hP
  have hD : va_D A [(a0, .inr (0, [.int 0, .ref a_product, .ref a_last, .ref a_cost, .null, .null])), rI cI a_product 24 (fun _ => 0), rI cI a_last 24 (fun _ => 0), rI cI a_cost 24 (fun _ => 0), rI cI a_state 24 (fun _ => 0)] := hD
  refine W.widen (k := 4) (n := 96) (Nat.le_of_ble_eq_true rfl) (Nat.le_of_ble_eq_true rfl) ?_
  refine va_putF (D := D) (ci := 0) (v := .ref a_state) (ty := .array .int) (C := RX1) (T := TX1) (N := 6) hx hb hts (fun w h => mb (iX1 w h)) tyX1 tyX1_ok nmX1 hown hK hP hD hS 0 rfl rfl 4 (by decide) (hts _ (mb tb_101)) (fun _ h9 => h9) rfl hin rfl (by decide +kernel) rfl rfl (Nat.le_of_ble_eq_true rfl) dX1_init_33 (fun H locs hP hD hS => ?_)
  have hP : va_P D vwCl [(a0, .inr (0, [.int 0, .ref a_product, .ref a_last, .ref a_cost, .ref a_state, .null])), rI cI a_product 24 (fun _ => 0), rI cI a_last 24 (fun _ => 0), rI cI a_cost 24 (fun _ => 0), rI cI a_state 24 (fun _ => 0)] H := hP
  have hD : va_D A [(a0, .inr (0, [.int 0, .ref a_product, .ref a_last, .ref a_cost, .ref a_state, .null])), rI cI a_product 24 (fun _ => 0), rI cI a_last 24 (fun _ => 0), rI cI a_cost 24 (fun _ => 0), rI cI a_state 24 (fun _ => 0)] := hD
  refine lv_aload_n hx hb dX1_init_36 rfl (lv_at hl 0 rfl) ?_
  refine lv_bipush (v := 24) hx hb dX1_init_37 (by decide) ?_
  refine va_newa (atype := .int) (ty := .int) (N' := 24) (a0 := (24, (.inl (fun _ => 0)))) hx hb (hts _ (mb tb_85)) rfl hK hP hD hS hA (fun _ => rfl) (by decide +kernel) (by decide +kernel) (Nat.le_of_ble_eq_true rfl) (Nat.le_of_ble_eq_true rfl) (Nat.le_of_ble_eq_true rfl) dX1_init_39 (fun a_byLast cN H hK1 hP hD hS => ?_)
  have hcN := (ty_one hK1 0 (by rfl) rfl).symm
  subst hcN
  have hP : va_P D vwCl [(a0, .inr (0, [.int 0, .ref a_product, .ref a_last, .ref a_cost, .ref a_state, .null])), rI cI a_product 24 (fun _ => 0), rI cI a_last 24 (fun _ => 0), rI cI a_cost 24 (fun _ => 0), rI cI a_state 24 (fun _ => 0), rI cI a_byLast 24 (fun _ => 0)] H := hP
  have hD : va_D A [(a0, .inr (0, [.int 0, .ref a_product, .ref a_last, .ref a_cost, .ref a_state, .null])), rI cI a_product 24 (fun _ => 0), rI cI a_last 24 (fun _ => 0), rI cI a_cost 24 (fun _ => 0), rI cI a_state 24 (fun _ => 0), rI cI a_byLast 24 (fun _ => 0)] := hD
  refine W.widen (k := 5) (n := 120) (Nat.le_of_ble_eq_true rfl) (Nat.le_of_ble_eq_true rfl) ?_
  refine va_putF (D := D) (ci := 0) (v := .ref a_byLast) (ty := .array .int) (C := RX1) (T := TX1) (N := 6) hx hb hts (fun w h => mb (iX1 w h)) tyX1 tyX1_ok nmX1 hown hK hP hD hS 0 rfl rfl 5 (by decide) (hts _ (mb tb_103)) (fun _ h9 => h9) rfl hin rfl (by decide +kernel) rfl rfl (Nat.le_of_ble_eq_true rfl) dX1_init_41 (fun H locs hP hD hS => ?_)
  have hP : va_P D vwCl [(a0, .inr (0, [.int 0, .ref a_product, .ref a_last, .ref a_cost, .ref a_state, .ref a_byLast])), rI cI a_product 24 (fun _ => 0), rI cI a_last 24 (fun _ => 0), rI cI a_cost 24 (fun _ => 0), rI cI a_state 24 (fun _ => 0), rI cI a_byLast 24 (fun _ => 0)] H := hP
  have hD : va_D A [(a0, .inr (0, [.int 0, .ref a_product, .ref a_last, .ref a_cost, .ref a_state, .ref a_byLast])), rI cI a_product 24 (fun _ => 0), rI cI a_last 24 (fun _ => 0), rI cI a_cost 24 (fun _ => 0), rI cI a_state 24 (fun _ => 0), rI cI a_byLast 24 (fun _ => 0)] := hD
  have hP9 := hP.sub (ws' := [oX1 a0 0 a_product a_last a_cost a_state a_byLast, rI cI a_product 24 (fun _ => 0), rI cI a_last 24 (fun _ => 0), rI cI a_cost 24 (fun _ => 0), rI cI a_state 24 (fun _ => 0), rI cI a_byLast 24 (fun _ => 0)]) [0, 1, 2, 3, 4, 5] rfl
  have hD9 := hD.sub (ws' := [oX1 a0 0 a_product a_last a_cost a_state a_byLast, rI cI a_product 24 (fun _ => 0), rI cI a_last 24 (fun _ => 0), rI cI a_cost 24 (fun _ => 0), rI cI a_state 24 (fun _ => 0), rI cI a_byLast 24 (fun _ => 0)]) [0, 1, 2, 3, 4, 5] rfl rfl
  exact W.vret hx hb hr (fun t ht hW => ⟨⟨fun k => [a_product, a_last, a_cost, a_state, a_byLast].getD k 0, rfl, trivial, by show va_P D vwCl _ t.heap ∧ va_D A _; rw [ht]; exact ⟨hP9, hD9⟩⟩, hS.F ht⟩) hS.2.2 dX1_init_44
set_option maxHeartbeats 4000000 in
set_option maxRecDepth 100000 in
theorem k_X2_init (l : Launch) (hl0 : l.stackTraces = false) (D : va_G) (cI cJ cZ cS : ClassId) (B0 : Nat) (sz : Nat) (a0 : Nat) : Met l yX2_init (wz yX2_init cX2_init 1 none) ({ frames := 1, cells := 8, slots := 2160, locals := 40 }) (va_Pc [.ref a0] (wp D cI cJ cZ cS B0 [(a0, .inr (1, [.int 0, .int 0, .null, .null, .null, .null, .null, .null, .null, .null]))] sz)) (va_Qv (fun (_ : Nat → Nat) => True) (fun q t => va_P D vwCl [oX2 a0 0 0 (q 0) (q 1) (q 2) (q 3) (q 4) (q 5) (q 6) (q 7), rI cI (q 0) 40 (fun _ => 0), rI cI (q 1) 40 (fun _ => 0), rI cI (q 2) 40 (fun _ => 0), rI cI (q 3) 40 (fun _ => 0), rI cI (q 4) 40 (fun _ => 0), rI cI (q 5) 40 (fun _ => 0), rI cI (q 6) 960 (fun _ => 0), rI cI (q 7) 960 (fun _ => 0)] t.heap ∧ va_D (va_A [(a0, .inr (1, [.int 0, .int 0, .null, .null, .null, .null, .null, .null, .null, .null]))] sz) [oX2 a0 0 0 (q 0) (q 1) (q 2) (q 3) (q 4) (q 5) (q 6) (q 7), rI cI (q 0) 40 (fun _ => 0), rI cI (q 1) 40 (fun _ => 0), rI cI (q 2) 40 (fun _ => 0), rI cI (q 3) 40 (fun _ => 0), rI cI (q 4) 40 (fun _ => 0), rI cI (q 5) 40 (fun _ => 0), rI cI (q 6) 960 (fun _ => 0), rI cI (q 7) 960 (fun _ => 0)]) (va_A [(a0, .inr (1, [.int 0, .int 0, .null, .null, .null, .null, .null, .null, .null, .null]))] sz)) 8 2160 (va_A [(a0, .inr (1, [.int 0, .int 0, .null, .null, .null, .null, .null, .null, .null, .null]))] sz) := by
  refine Met.ofW (cc := cX2_init) (maxL := 1) (ret := none) (by decide) rfl ?_
  intro p e s m args below meth c s₁ B hml hv
  obtain ⟨rfl, hsz, hP, hK, hD0, hB0, hE⟩ := hv
  subst hsz
  have hx := B.exec
  have hb := B.bytes
  have hr := B.returns
  have hts := atoms_spec (ws := (wz yX2_init cX2_init 1 none)) B.pre
  have hown : s.vm.findClass RX2 = some m.cls := findClass_of_methodNamed B.named
  have hlocks := B.notSynchronized
  have hin : meth.name = "<init>" := (name_of_methodNamed B.named B.method).1
  have hD := hD0.self (sz := s.heap.size)
  have hAB : ∀ q : Nat, va_A [(a0, .inr (1, [.int 0, .int 0, .null, .null, .null, .null, .null, .null, .null, .null]))] s.heap.size q → B0 ≤ q := va_A_B hD0 hB0
  generalize hAe : va_A [(a0, .inr (1, [.int 0, .int 0, .null, .null, .null, .null, .null, .null, .null, .null]))] s.heap.size = A at hD hAB ⊢
  have hA : ∀ q : Nat, s.heap.size ≤ q → A q := fun q h => by rw [← hAe]; exact Or.inr h
  have hS : va_S A s.heap s.heap [] := va_S.rf
  have hBn := fun (H : Heap) (locs : List Loc) (h : va_S A s.heap H locs) => Nat.le_trans hB0 h.1
  have hEn := fun (H : Heap) (locs : List Loc) (h : va_S A s.heap H locs) => gE_now hE h hAB
  have hl := lv_entry ([.ref a0]) (n := 1) (Nat.le_of_ble_eq_true rfl)
  rw [lg_entry_eq]
  generalize (lg_sl ([.ref a0]) ++ List.replicate (1 - (lg_sl ([.ref a0])).length) Slot.unset).toArray = ls at hl ⊢
  have hl : lv_has ls 1 [(0, .ref a0)] := hl
  obtain ⟨H, hHe⟩ : ∃ H : Heap, H = s.heap := ⟨_, rfl⟩
  have hP : va_P D vwCl [(a0, .inr (1, [.int 0, .int 0, .null, .null, .null, .null, .null, .null, .null, .null]))] H := by rw [hHe]; exact hP
  have hS : va_S A s.heap H [] := by rw [hHe]; exact hS
  refine W_heq hHe ?_
  refine lv_aload_n hx hb dX2_init_0 rfl (lv_at hl 0 rfl) ?_
  refine W.objInit hx hb hown (hts _ (mb tb_123)) (hts _ (mb tb_25)) (hts _ (mb tb_26)) rfl (by rw [hml]; exact hl.1) rfl dX2_init_1 (Nat.le_of_ble_eq_true rfl) (Nat.le_of_ble_eq_true rfl) ?_
  refine W.eq (g2 := F0 m 4 ls []) rfl ?_
  refine lv_aload_n hx hb dX2_init_4 rfl (lv_at hl 0 rfl) ?_
  refine lv_bipush (v := 40) hx hb dX2_init_5 (by decide) ?_
  refine va_newa (atype := .int) (ty := .int) (N' := 40) (a0 := (40, (.inl (fun _ => 0)))) hx hb (hts _ (mb tb_85)) rfl hK hP hD hS hA (fun _ => rfl) (by decide +kernel) (by decide +kernel) (Nat.le_of_ble_eq_true rfl) (Nat.le_of_ble_eq_true rfl) (Nat.le_of_ble_eq_true rfl) dX2_init_7 (fun a_customer cN H hK1 hP hD hS => ?_)
  have hcN := (ty_one hK1 0 (by rfl) rfl).symm
  subst hcN
  have hP : va_P D vwCl [(a0, .inr (1, [.int 0, .int 0, .null, .null, .null, .null, .null, .null, .null, .null])), rI cI a_customer 40 (fun _ => 0)] H := hP
  have hD : va_D A [(a0, .inr (1, [.int 0, .int 0, .null, .null, .null, .null, .null, .null, .null, .null])), rI cI a_customer 40 (fun _ => 0)] := hD
  refine W.widen (k := 1) (n := 40) (Nat.le_of_ble_eq_true rfl) (Nat.le_of_ble_eq_true rfl) ?_
  refine va_putF (D := D) (ci := 1) (v := .ref a_customer) (ty := .array .int) (C := RX2) (T := TX2) (N := 10) hx hb hts (fun w h => mb (iX2 w h)) tyX2 tyX2_ok nmX2 hown hK hP hD hS 0 rfl rfl 2 (by decide) (hts _ (mb tb_127)) (fun _ h9 => h9) rfl hin rfl (by decide +kernel) rfl rfl (Nat.le_of_ble_eq_true rfl) dX2_init_9 (fun H locs hP hD hS => ?_)
  have hP : va_P D vwCl [(a0, .inr (1, [.int 0, .int 0, .ref a_customer, .null, .null, .null, .null, .null, .null, .null])), rI cI a_customer 40 (fun _ => 0)] H := hP
  have hD : va_D A [(a0, .inr (1, [.int 0, .int 0, .ref a_customer, .null, .null, .null, .null, .null, .null, .null])), rI cI a_customer 40 (fun _ => 0)] := hD
  refine lv_aload_n hx hb dX2_init_12 rfl (lv_at hl 0 rfl) ?_
  refine lv_bipush (v := 40) hx hb dX2_init_13 (by decide) ?_
  refine va_newa (atype := .int) (ty := .int) (N' := 40) (a0 := (40, (.inl (fun _ => 0)))) hx hb (hts _ (mb tb_85)) rfl hK hP hD hS hA (fun _ => rfl) (by decide +kernel) (by decide +kernel) (Nat.le_of_ble_eq_true rfl) (Nat.le_of_ble_eq_true rfl) (Nat.le_of_ble_eq_true rfl) dX2_init_15 (fun a_product cN H hK1 hP hD hS => ?_)
  have hcN := (ty_one hK1 0 (by rfl) rfl).symm
  subst hcN
  have hP : va_P D vwCl [(a0, .inr (1, [.int 0, .int 0, .ref a_customer, .null, .null, .null, .null, .null, .null, .null])), rI cI a_customer 40 (fun _ => 0), rI cI a_product 40 (fun _ => 0)] H := hP
  have hD : va_D A [(a0, .inr (1, [.int 0, .int 0, .ref a_customer, .null, .null, .null, .null, .null, .null, .null])), rI cI a_customer 40 (fun _ => 0), rI cI a_product 40 (fun _ => 0)] := hD
  refine W.widen (k := 2) (n := 80) (Nat.le_of_ble_eq_true rfl) (Nat.le_of_ble_eq_true rfl) ?_
  refine va_putF (D := D) (ci := 1) (v := .ref a_product) (ty := .array .int) (C := RX2) (T := TX2) (N := 10) hx hb hts (fun w h => mb (iX2 w h)) tyX2 tyX2_ok nmX2 hown hK hP hD hS 0 rfl rfl 3 (by decide) (hts _ (mb tb_129)) (fun _ h9 => h9) rfl hin rfl (by decide +kernel) rfl rfl (Nat.le_of_ble_eq_true rfl) dX2_init_17 (fun H locs hP hD hS => ?_)
  have hP : va_P D vwCl [(a0, .inr (1, [.int 0, .int 0, .ref a_customer, .ref a_product, .null, .null, .null, .null, .null, .null])), rI cI a_customer 40 (fun _ => 0), rI cI a_product 40 (fun _ => 0)] H := hP
  have hD : va_D A [(a0, .inr (1, [.int 0, .int 0, .ref a_customer, .ref a_product, .null, .null, .null, .null, .null, .null])), rI cI a_customer 40 (fun _ => 0), rI cI a_product 40 (fun _ => 0)] := hD
  refine lv_aload_n hx hb dX2_init_20 rfl (lv_at hl 0 rfl) ?_
  refine lv_bipush (v := 40) hx hb dX2_init_21 (by decide) ?_
  refine va_newa (atype := .int) (ty := .int) (N' := 40) (a0 := (40, (.inl (fun _ => 0)))) hx hb (hts _ (mb tb_85)) rfl hK hP hD hS hA (fun _ => rfl) (by decide +kernel) (by decide +kernel) (Nat.le_of_ble_eq_true rfl) (Nat.le_of_ble_eq_true rfl) (Nat.le_of_ble_eq_true rfl) dX2_init_23 (fun a_open cN H hK1 hP hD hS => ?_)
  have hcN := (ty_one hK1 0 (by rfl) rfl).symm
  subst hcN
  have hP : va_P D vwCl [(a0, .inr (1, [.int 0, .int 0, .ref a_customer, .ref a_product, .null, .null, .null, .null, .null, .null])), rI cI a_customer 40 (fun _ => 0), rI cI a_product 40 (fun _ => 0), rI cI a_open 40 (fun _ => 0)] H := hP
  have hD : va_D A [(a0, .inr (1, [.int 0, .int 0, .ref a_customer, .ref a_product, .null, .null, .null, .null, .null, .null])), rI cI a_customer 40 (fun _ => 0), rI cI a_product 40 (fun _ => 0), rI cI a_open 40 (fun _ => 0)] := hD
  refine W.widen (k := 3) (n := 120) (Nat.le_of_ble_eq_true rfl) (Nat.le_of_ble_eq_true rfl) ?_
  refine va_putF (D := D) (ci := 1) (v := .ref a_open) (ty := .array .int) (C := RX2) (T := TX2) (N := 10) hx hb hts (fun w h => mb (iX2 w h)) tyX2 tyX2_ok nmX2 hown hK hP hD hS 0 rfl rfl 4 (by decide) (hts _ (mb tb_131)) (fun _ h9 => h9) rfl hin rfl (by decide +kernel) rfl rfl (Nat.le_of_ble_eq_true rfl) dX2_init_25 (fun H locs hP hD hS => ?_)
  have hP : va_P D vwCl [(a0, .inr (1, [.int 0, .int 0, .ref a_customer, .ref a_product, .ref a_open, .null, .null, .null, .null, .null])), rI cI a_customer 40 (fun _ => 0), rI cI a_product 40 (fun _ => 0), rI cI a_open 40 (fun _ => 0)] H := hP
  have hD : va_D A [(a0, .inr (1, [.int 0, .int 0, .ref a_customer, .ref a_product, .ref a_open, .null, .null, .null, .null, .null])), rI cI a_customer 40 (fun _ => 0), rI cI a_product 40 (fun _ => 0), rI cI a_open 40 (fun _ => 0)] := hD
  refine lv_aload_n hx hb dX2_init_28 rfl (lv_at hl 0 rfl) ?_
  refine lv_bipush (v := 40) hx hb dX2_init_29 (by decide) ?_
  refine va_newa (atype := .int) (ty := .int) (N' := 40) (a0 := (40, (.inl (fun _ => 0)))) hx hb (hts _ (mb tb_85)) rfl hK hP hD hS hA (fun _ => rfl) (by decide +kernel) (by decide +kernel) (Nat.le_of_ble_eq_true rfl) (Nat.le_of_ble_eq_true rfl) (Nat.le_of_ble_eq_true rfl) dX2_init_31 (fun a_due cN H hK1 hP hD hS => ?_)
  have hcN := (ty_one hK1 0 (by rfl) rfl).symm
  subst hcN
  have hP : va_P D vwCl [(a0, .inr (1, [.int 0, .int 0, .ref a_customer, .ref a_product, .ref a_open, .null, .null, .null, .null, .null])), rI cI a_customer 40 (fun _ => 0), rI cI a_product 40 (fun _ => 0), rI cI a_open 40 (fun _ => 0), rI cI a_due 40 (fun _ => 0)] H := hP
  have hD : va_D A [(a0, .inr (1, [.int 0, .int 0, .ref a_customer, .ref a_product, .ref a_open, .null, .null, .null, .null, .null])), rI cI a_customer 40 (fun _ => 0), rI cI a_product 40 (fun _ => 0), rI cI a_open 40 (fun _ => 0), rI cI a_due 40 (fun _ => 0)] := hD
  refine W.widen (k := 4) (n := 160) (Nat.le_of_ble_eq_true rfl) (Nat.le_of_ble_eq_true rfl) ?_
  refine va_putF (D := D) (ci := 1) (v := .ref a_due) (ty := .array .int) (C := RX2) (T := TX2) (N := 10) hx hb hts (fun w h => mb (iX2 w h)) tyX2 tyX2_ok nmX2 hown hK hP hD hS 0 rfl rfl 5 (by decide) (hts _ (mb tb_133)) (fun _ h9 => h9) rfl hin rfl (by decide +kernel) rfl rfl (Nat.le_of_ble_eq_true rfl) dX2_init_33 (fun H locs hP hD hS => ?_)
  have hP : va_P D vwCl [(a0, .inr (1, [.int 0, .int 0, .ref a_customer, .ref a_product, .ref a_open, .ref a_due, .null, .null, .null, .null])), rI cI a_customer 40 (fun _ => 0), rI cI a_product 40 (fun _ => 0), rI cI a_open 40 (fun _ => 0), rI cI a_due 40 (fun _ => 0)] H := hP
  have hD : va_D A [(a0, .inr (1, [.int 0, .int 0, .ref a_customer, .ref a_product, .ref a_open, .ref a_due, .null, .null, .null, .null])), rI cI a_customer 40 (fun _ => 0), rI cI a_product 40 (fun _ => 0), rI cI a_open 40 (fun _ => 0), rI cI a_due 40 (fun _ => 0)] := hD
  refine lv_aload_n hx hb dX2_init_36 rfl (lv_at hl 0 rfl) ?_
  refine lv_bipush (v := 40) hx hb dX2_init_37 (by decide) ?_
  refine va_newa (atype := .int) (ty := .int) (N' := 40) (a0 := (40, (.inl (fun _ => 0)))) hx hb (hts _ (mb tb_85)) rfl hK hP hD hS hA (fun _ => rfl) (by decide +kernel) (by decide +kernel) (Nat.le_of_ble_eq_true rfl) (Nat.le_of_ble_eq_true rfl) (Nat.le_of_ble_eq_true rfl) dX2_init_39 (fun a_life cN H hK1 hP hD hS => ?_)
  have hcN := (ty_one hK1 0 (by rfl) rfl).symm
  subst hcN
  have hP : va_P D vwCl [(a0, .inr (1, [.int 0, .int 0, .ref a_customer, .ref a_product, .ref a_open, .ref a_due, .null, .null, .null, .null])), rI cI a_customer 40 (fun _ => 0), rI cI a_product 40 (fun _ => 0), rI cI a_open 40 (fun _ => 0), rI cI a_due 40 (fun _ => 0), rI cI a_life 40 (fun _ => 0)] H := hP
  have hD : va_D A [(a0, .inr (1, [.int 0, .int 0, .ref a_customer, .ref a_product, .ref a_open, .ref a_due, .null, .null, .null, .null])), rI cI a_customer 40 (fun _ => 0), rI cI a_product 40 (fun _ => 0), rI cI a_open 40 (fun _ => 0), rI cI a_due 40 (fun _ => 0), rI cI a_life 40 (fun _ => 0)] := hD
  refine W.widen (k := 5) (n := 200) (Nat.le_of_ble_eq_true rfl) (Nat.le_of_ble_eq_true rfl) ?_
  refine va_putF (D := D) (ci := 1) (v := .ref a_life) (ty := .array .int) (C := RX2) (T := TX2) (N := 10) hx hb hts (fun w h => mb (iX2 w h)) tyX2 tyX2_ok nmX2 hown hK hP hD hS 0 rfl rfl 6 (by decide) (hts _ (mb tb_135)) (fun _ h9 => h9) rfl hin rfl (by decide +kernel) rfl rfl (Nat.le_of_ble_eq_true rfl) dX2_init_41 (fun H locs hP hD hS => ?_)
  have hP : va_P D vwCl [(a0, .inr (1, [.int 0, .int 0, .ref a_customer, .ref a_product, .ref a_open, .ref a_due, .ref a_life, .null, .null, .null])), rI cI a_customer 40 (fun _ => 0), rI cI a_product 40 (fun _ => 0), rI cI a_open 40 (fun _ => 0), rI cI a_due 40 (fun _ => 0), rI cI a_life 40 (fun _ => 0)] H := hP
  have hD : va_D A [(a0, .inr (1, [.int 0, .int 0, .ref a_customer, .ref a_product, .ref a_open, .ref a_due, .ref a_life, .null, .null, .null])), rI cI a_customer 40 (fun _ => 0), rI cI a_product 40 (fun _ => 0), rI cI a_open 40 (fun _ => 0), rI cI a_due 40 (fun _ => 0), rI cI a_life 40 (fun _ => 0)] := hD
  refine lv_aload_n hx hb dX2_init_44 rfl (lv_at hl 0 rfl) ?_
  refine lv_bipush (v := 40) hx hb dX2_init_45 (by decide) ?_
  refine va_newa (atype := .int) (ty := .int) (N' := 40) (a0 := (40, (.inl (fun _ => 0)))) hx hb (hts _ (mb tb_85)) rfl hK hP hD hS hA (fun _ => rfl) (by decide +kernel) (by decide +kernel) (Nat.le_of_ble_eq_true rfl) (Nat.le_of_ble_eq_true rfl) (Nat.le_of_ble_eq_true rfl) dX2_init_47 (fun a_byDue cN H hK1 hP hD hS => ?_)
  have hcN := (ty_one hK1 0 (by rfl) rfl).symm
  subst hcN
  have hP : va_P D vwCl [(a0, .inr (1, [.int 0, .int 0, .ref a_customer, .ref a_product, .ref a_open, .ref a_due, .ref a_life, .null, .null, .null])), rI cI a_customer 40 (fun _ => 0), rI cI a_product 40 (fun _ => 0), rI cI a_open 40 (fun _ => 0), rI cI a_due 40 (fun _ => 0), rI cI a_life 40 (fun _ => 0), rI cI a_byDue 40 (fun _ => 0)] H := hP
  have hD : va_D A [(a0, .inr (1, [.int 0, .int 0, .ref a_customer, .ref a_product, .ref a_open, .ref a_due, .ref a_life, .null, .null, .null])), rI cI a_customer 40 (fun _ => 0), rI cI a_product 40 (fun _ => 0), rI cI a_open 40 (fun _ => 0), rI cI a_due 40 (fun _ => 0), rI cI a_life 40 (fun _ => 0), rI cI a_byDue 40 (fun _ => 0)] := hD
  refine W.widen (k := 6) (n := 240) (Nat.le_of_ble_eq_true rfl) (Nat.le_of_ble_eq_true rfl) ?_
  refine va_putF (D := D) (ci := 1) (v := .ref a_byDue) (ty := .array .int) (C := RX2) (T := TX2) (N := 10) hx hb hts (fun w h => mb (iX2 w h)) tyX2 tyX2_ok nmX2 hown hK hP hD hS 0 rfl rfl 7 (by decide) (hts _ (mb tb_136)) (fun _ h9 => h9) rfl hin rfl (by decide +kernel) rfl rfl (Nat.le_of_ble_eq_true rfl) dX2_init_49 (fun H locs hP hD hS => ?_)
  have hP : va_P D vwCl [(a0, .inr (1, [.int 0, .int 0, .ref a_customer, .ref a_product, .ref a_open, .ref a_due, .ref a_life, .ref a_byDue, .null, .null])), rI cI a_customer 40 (fun _ => 0), rI cI a_product 40 (fun _ => 0), rI cI a_open 40 (fun _ => 0), rI cI a_due 40 (fun _ => 0), rI cI a_life 40 (fun _ => 0), rI cI a_byDue 40 (fun _ => 0)] H := hP
  have hD : va_D A [(a0, .inr (1, [.int 0, .int 0, .ref a_customer, .ref a_product, .ref a_open, .ref a_due, .ref a_life, .ref a_byDue, .null, .null])), rI cI a_customer 40 (fun _ => 0), rI cI a_product 40 (fun _ => 0), rI cI a_open 40 (fun _ => 0), rI cI a_due 40 (fun _ => 0), rI cI a_life 40 (fun _ => 0), rI cI a_byDue 40 (fun _ => 0)] := hD
  refine lv_aload_n hx hb dX2_init_52 rfl (lv_at hl 0 rfl) ?_
  refine lv_sipush (v := 960) hx hb dX2_init_53 (by decide) ?_
  refine va_newa (atype := .int) (ty := .int) (N' := 960) (a0 := (960, (.inl (fun _ => 0)))) hx hb (hts _ (mb tb_85)) rfl hK hP hD hS hA (fun _ => rfl) (by decide +kernel) (by decide +kernel) (Nat.le_of_ble_eq_true rfl) (Nat.le_of_ble_eq_true rfl) (Nat.le_of_ble_eq_true rfl) dX2_init_56 (fun a_had cN H hK1 hP hD hS => ?_)
  have hcN := (ty_one hK1 0 (by rfl) rfl).symm
  subst hcN
  have hP : va_P D vwCl [(a0, .inr (1, [.int 0, .int 0, .ref a_customer, .ref a_product, .ref a_open, .ref a_due, .ref a_life, .ref a_byDue, .null, .null])), rI cI a_customer 40 (fun _ => 0), rI cI a_product 40 (fun _ => 0), rI cI a_open 40 (fun _ => 0), rI cI a_due 40 (fun _ => 0), rI cI a_life 40 (fun _ => 0), rI cI a_byDue 40 (fun _ => 0), rI cI a_had 960 (fun _ => 0)] H := hP
  have hD : va_D A [(a0, .inr (1, [.int 0, .int 0, .ref a_customer, .ref a_product, .ref a_open, .ref a_due, .ref a_life, .ref a_byDue, .null, .null])), rI cI a_customer 40 (fun _ => 0), rI cI a_product 40 (fun _ => 0), rI cI a_open 40 (fun _ => 0), rI cI a_due 40 (fun _ => 0), rI cI a_life 40 (fun _ => 0), rI cI a_byDue 40 (fun _ => 0), rI cI a_had 960 (fun _ => 0)] := hD
  refine W.widen (k := 7) (n := 1200) (Nat.le_of_ble_eq_true rfl) (Nat.le_of_ble_eq_true rfl) ?_
  refine va_putF (D := D) (ci := 1) (v := .ref a_had) (ty := .array .int) (C := RX2) (T := TX2) (N := 10) hx hb hts (fun w h => mb (iX2 w h)) tyX2 tyX2_ok nmX2 hown hK hP hD hS 0 rfl rfl 8 (by decide) (hts _ (mb tb_138)) (fun _ h9 => h9) rfl hin rfl (by decide +kernel) rfl rfl (Nat.le_of_ble_eq_true rfl) dX2_init_58 (fun H locs hP hD hS => ?_)
  have hP : va_P D vwCl [(a0, .inr (1, [.int 0, .int 0, .ref a_customer, .ref a_product, .ref a_open, .ref a_due, .ref a_life, .ref a_byDue, .ref a_had, .null])), rI cI a_customer 40 (fun _ => 0), rI cI a_product 40 (fun _ => 0), rI cI a_open 40 (fun _ => 0), rI cI a_due 40 (fun _ => 0), rI cI a_life 40 (fun _ => 0), rI cI a_byDue 40 (fun _ => 0), rI cI a_had 960 (fun _ => 0)] H := hP
  have hD : va_D A [(a0, .inr (1, [.int 0, .int 0, .ref a_customer, .ref a_product, .ref a_open, .ref a_due, .ref a_life, .ref a_byDue, .ref a_had, .null])), rI cI a_customer 40 (fun _ => 0), rI cI a_product 40 (fun _ => 0), rI cI a_open 40 (fun _ => 0), rI cI a_due 40 (fun _ => 0), rI cI a_life 40 (fun _ => 0), rI cI a_byDue 40 (fun _ => 0), rI cI a_had 960 (fun _ => 0)] := hD
  refine lv_aload_n hx hb dX2_init_61 rfl (lv_at hl 0 rfl) ?_
  refine lv_sipush (v := 960) hx hb dX2_init_62 (by decide) ?_
  refine va_newa (atype := .int) (ty := .int) (N' := 960) (a0 := (960, (.inl (fun _ => 0)))) hx hb (hts _ (mb tb_85)) rfl hK hP hD hS hA (fun _ => rfl) (by decide +kernel) (by decide +kernel) (Nat.le_of_ble_eq_true rfl) (Nat.le_of_ble_eq_true rfl) (Nat.le_of_ble_eq_true rfl) dX2_init_65 (fun a_stamps cN H hK1 hP hD hS => ?_)
  have hcN := (ty_one hK1 0 (by rfl) rfl).symm
  subst hcN
  have hP : va_P D vwCl [(a0, .inr (1, [.int 0, .int 0, .ref a_customer, .ref a_product, .ref a_open, .ref a_due, .ref a_life, .ref a_byDue, .ref a_had, .null])), rI cI a_customer 40 (fun _ => 0), rI cI a_product 40 (fun _ => 0), rI cI a_open 40 (fun _ => 0), rI cI a_due 40 (fun _ => 0), rI cI a_life 40 (fun _ => 0), rI cI a_byDue 40 (fun _ => 0), rI cI a_had 960 (fun _ => 0), rI cI a_stamps 960 (fun _ => 0)] H := hP
  have hD : va_D A [(a0, .inr (1, [.int 0, .int 0, .ref a_customer, .ref a_product, .ref a_open, .ref a_due, .ref a_life, .ref a_byDue, .ref a_had, .null])), rI cI a_customer 40 (fun _ => 0), rI cI a_product 40 (fun _ => 0), rI cI a_open 40 (fun _ => 0), rI cI a_due 40 (fun _ => 0), rI cI a_life 40 (fun _ => 0), rI cI a_byDue 40 (fun _ => 0), rI cI a_had 960 (fun _ => 0), rI cI a_stamps 960 (fun _ => 0)] := hD
  refine W.widen (k := 8) (n := 2160) (Nat.le_of_ble_eq_true rfl) (Nat.le_of_ble_eq_true rfl) ?_
  refine va_putF (D := D) (ci := 1) (v := .ref a_stamps) (ty := .array .int) (C := RX2) (T := TX2) (N := 10) hx hb hts (fun w h => mb (iX2 w h)) tyX2 tyX2_ok nmX2 hown hK hP hD hS 0 rfl rfl 9 (by decide) (hts _ (mb tb_139)) (fun _ h9 => h9) rfl hin rfl (by decide +kernel) rfl rfl (Nat.le_of_ble_eq_true rfl) dX2_init_67 (fun H locs hP hD hS => ?_)
  have hP : va_P D vwCl [(a0, .inr (1, [.int 0, .int 0, .ref a_customer, .ref a_product, .ref a_open, .ref a_due, .ref a_life, .ref a_byDue, .ref a_had, .ref a_stamps])), rI cI a_customer 40 (fun _ => 0), rI cI a_product 40 (fun _ => 0), rI cI a_open 40 (fun _ => 0), rI cI a_due 40 (fun _ => 0), rI cI a_life 40 (fun _ => 0), rI cI a_byDue 40 (fun _ => 0), rI cI a_had 960 (fun _ => 0), rI cI a_stamps 960 (fun _ => 0)] H := hP
  have hD : va_D A [(a0, .inr (1, [.int 0, .int 0, .ref a_customer, .ref a_product, .ref a_open, .ref a_due, .ref a_life, .ref a_byDue, .ref a_had, .ref a_stamps])), rI cI a_customer 40 (fun _ => 0), rI cI a_product 40 (fun _ => 0), rI cI a_open 40 (fun _ => 0), rI cI a_due 40 (fun _ => 0), rI cI a_life 40 (fun _ => 0), rI cI a_byDue 40 (fun _ => 0), rI cI a_had 960 (fun _ => 0), rI cI a_stamps 960 (fun _ => 0)] := hD
  have hP9 := hP.sub (ws' := [oX2 a0 0 0 a_customer a_product a_open a_due a_life a_byDue a_had a_stamps, rI cI a_customer 40 (fun _ => 0), rI cI a_product 40 (fun _ => 0), rI cI a_open 40 (fun _ => 0), rI cI a_due 40 (fun _ => 0), rI cI a_life 40 (fun _ => 0), rI cI a_byDue 40 (fun _ => 0), rI cI a_had 960 (fun _ => 0), rI cI a_stamps 960 (fun _ => 0)]) [0, 1, 2, 3, 4, 5, 6, 7, 8] rfl
  have hD9 := hD.sub (ws' := [oX2 a0 0 0 a_customer a_product a_open a_due a_life a_byDue a_had a_stamps, rI cI a_customer 40 (fun _ => 0), rI cI a_product 40 (fun _ => 0), rI cI a_open 40 (fun _ => 0), rI cI a_due 40 (fun _ => 0), rI cI a_life 40 (fun _ => 0), rI cI a_byDue 40 (fun _ => 0), rI cI a_had 960 (fun _ => 0), rI cI a_stamps 960 (fun _ => 0)]) [0, 1, 2, 3, 4, 5, 6, 7, 8] rfl rfl
  exact W.vret hx hb hr (fun t ht hW => ⟨⟨fun k => [a_customer, a_product, a_open, a_due, a_life, a_byDue, a_had, a_stamps].getD k 0, rfl, trivial, by show va_P D vwCl _ t.heap ∧ va_D A _; rw [ht]; exact ⟨hP9, hD9⟩⟩, hS.F ht⟩) hS.2.2 dX2_init_70
set_option maxHeartbeats 4000000 in
set_option maxRecDepth 100000 in
theorem k_X3_init (l : Launch) (hl0 : l.stackTraces = false) (D : va_G) (cI cJ cZ cS : ClassId) (B0 : Nat) (sz : Nat) (a0 : Nat) : Met l yX3_init (wz yX3_init cX3_init 1 none) ({ frames := 1, cells := 2, slots := 10, locals := 40 }) (va_Pc [.ref a0] (wp D cI cJ cZ cS B0 [(a0, .inr (2, [.null, .null, .int 0, .int 0, .int 0]))] sz)) (va_Qv (fun (_ : Nat → Nat) => True) (fun q t => va_P D vwCl [oX3 a0 (q 0) (q 1) 0 0 0, rI cI (q 0) 5 (fun _ => 0), rI cI (q 1) 5 (fun _ => 0)] t.heap ∧ va_D (va_A [(a0, .inr (2, [.null, .null, .int 0, .int 0, .int 0]))] sz) [oX3 a0 (q 0) (q 1) 0 0 0, rI cI (q 0) 5 (fun _ => 0), rI cI (q 1) 5 (fun _ => 0)]) (va_A [(a0, .inr (2, [.null, .null, .int 0, .int 0, .int 0]))] sz)) 2 10 (va_A [(a0, .inr (2, [.null, .null, .int 0, .int 0, .int 0]))] sz) := by
  refine Met.ofW (cc := cX3_init) (maxL := 1) (ret := none) (by decide) rfl ?_
  intro p e s m args below meth c s₁ B hml hv
  obtain ⟨rfl, hsz, hP, hK, hD0, hB0, hE⟩ := hv
  subst hsz
  have hx := B.exec
  have hb := B.bytes
  have hr := B.returns
  have hts := atoms_spec (ws := (wz yX3_init cX3_init 1 none)) B.pre
  have hown : s.vm.findClass RX3 = some m.cls := findClass_of_methodNamed B.named
  have hlocks := B.notSynchronized
  have hin : meth.name = "<init>" := (name_of_methodNamed B.named B.method).1
  have hD := hD0.self (sz := s.heap.size)
  have hAB : ∀ q : Nat, va_A [(a0, .inr (2, [.null, .null, .int 0, .int 0, .int 0]))] s.heap.size q → B0 ≤ q := va_A_B hD0 hB0
  generalize hAe : va_A [(a0, .inr (2, [.null, .null, .int 0, .int 0, .int 0]))] s.heap.size = A at hD hAB ⊢
  have hA : ∀ q : Nat, s.heap.size ≤ q → A q := fun q h => by rw [← hAe]; exact Or.inr h
  have hS : va_S A s.heap s.heap [] := va_S.rf
  have hBn := fun (H : Heap) (locs : List Loc) (h : va_S A s.heap H locs) => Nat.le_trans hB0 h.1
  have hEn := fun (H : Heap) (locs : List Loc) (h : va_S A s.heap H locs) => gE_now hE h hAB
  have hl := lv_entry ([.ref a0]) (n := 1) (Nat.le_of_ble_eq_true rfl)
  rw [lg_entry_eq]
  generalize (lg_sl ([.ref a0]) ++ List.replicate (1 - (lg_sl ([.ref a0])).length) Slot.unset).toArray = ls at hl ⊢
  have hl : lv_has ls 1 [(0, .ref a0)] := hl
  obtain ⟨H, hHe⟩ : ∃ H : Heap, H = s.heap := ⟨_, rfl⟩
  have hP : va_P D vwCl [(a0, .inr (2, [.null, .null, .int 0, .int 0, .int 0]))] H := by rw [hHe]; exact hP
  have hS : va_S A s.heap H [] := by rw [hHe]; exact hS
  refine W_heq hHe ?_
  refine lv_aload_n hx hb dX3_init_0 rfl (lv_at hl 0 rfl) ?_
  refine W.objInit hx hb hown (hts _ (mb tb_235)) (hts _ (mb tb_25)) (hts _ (mb tb_26)) rfl (by rw [hml]; exact hl.1) rfl dX3_init_1 (Nat.le_of_ble_eq_true rfl) (Nat.le_of_ble_eq_true rfl) ?_
  refine W.eq (g2 := F0 m 4 ls []) rfl ?_
  refine lv_aload_n hx hb dX3_init_4 rfl (lv_at hl 0 rfl) ?_
  refine lv_iconst (v := 5) hx hb dX3_init_5 (by decide) ?_
  refine va_newa (atype := .int) (ty := .int) (N' := 5) (a0 := (5, (.inl (fun _ => 0)))) hx hb (hts _ (mb tb_85)) rfl hK hP hD hS hA (fun _ => rfl) (by decide +kernel) (by decide +kernel) (Nat.le_of_ble_eq_true rfl) (Nat.le_of_ble_eq_true rfl) (Nat.le_of_ble_eq_true rfl) dX3_init_6 (fun a_least cN H hK1 hP hD hS => ?_)
  have hcN := (ty_one hK1 0 (by rfl) rfl).symm
  subst hcN
  have hP : va_P D vwCl [(a0, .inr (2, [.null, .null, .int 0, .int 0, .int 0])), rI cI a_least 5 (fun _ => 0)] H := hP
  have hD : va_D A [(a0, .inr (2, [.null, .null, .int 0, .int 0, .int 0])), rI cI a_least 5 (fun _ => 0)] := hD
  refine W.widen (k := 1) (n := 5) (Nat.le_of_ble_eq_true rfl) (Nat.le_of_ble_eq_true rfl) ?_
  refine va_putF (D := D) (ci := 2) (v := .ref a_least) (ty := .array .int) (C := RX3) (T := TX3) (N := 5) hx hb hts (fun w h => mb (iX3 w h)) tyX3 tyX3_ok nmX3 hown hK hP hD hS 0 rfl rfl 0 (by decide) (hts _ (mb tb_236)) (fun _ h9 => h9) rfl hin rfl (by decide +kernel) rfl rfl (Nat.le_of_ble_eq_true rfl) dX3_init_8 (fun H locs hP hD hS => ?_)
  have hP : va_P D vwCl [(a0, .inr (2, [.ref a_least, .null, .int 0, .int 0, .int 0])), rI cI a_least 5 (fun _ => 0)] H := hP
  have hD : va_D A [(a0, .inr (2, [.ref a_least, .null, .int 0, .int 0, .int 0])), rI cI a_least 5 (fun _ => 0)] := hD
  refine lv_aload_n hx hb dX3_init_11 rfl (lv_at hl 0 rfl) ?_
  refine lv_iconst (v := 5) hx hb dX3_init_12 (by decide) ?_
  refine va_newa (atype := .int) (ty := .int) (N' := 5) (a0 := (5, (.inl (fun _ => 0)))) hx hb (hts _ (mb tb_85)) rfl hK hP hD hS hA (fun _ => rfl) (by decide +kernel) (by decide +kernel) (Nat.le_of_ble_eq_true rfl) (Nat.le_of_ble_eq_true rfl) (Nat.le_of_ble_eq_true rfl) dX3_init_13 (fun a_next cN H hK1 hP hD hS => ?_)
  have hcN := (ty_one hK1 0 (by rfl) rfl).symm
  subst hcN
  have hP : va_P D vwCl [(a0, .inr (2, [.ref a_least, .null, .int 0, .int 0, .int 0])), rI cI a_least 5 (fun _ => 0), rI cI a_next 5 (fun _ => 0)] H := hP
  have hD : va_D A [(a0, .inr (2, [.ref a_least, .null, .int 0, .int 0, .int 0])), rI cI a_least 5 (fun _ => 0), rI cI a_next 5 (fun _ => 0)] := hD
  refine W.widen (k := 2) (n := 10) (Nat.le_of_ble_eq_true rfl) (Nat.le_of_ble_eq_true rfl) ?_
  refine va_putF (D := D) (ci := 2) (v := .ref a_next) (ty := .array .int) (C := RX3) (T := TX3) (N := 5) hx hb hts (fun w h => mb (iX3 w h)) tyX3 tyX3_ok nmX3 hown hK hP hD hS 0 rfl rfl 1 (by decide) (hts _ (mb tb_237)) (fun _ h9 => h9) rfl hin rfl (by decide +kernel) rfl rfl (Nat.le_of_ble_eq_true rfl) dX3_init_15 (fun H locs hP hD hS => ?_)
  have hP : va_P D vwCl [(a0, .inr (2, [.ref a_least, .ref a_next, .int 0, .int 0, .int 0])), rI cI a_least 5 (fun _ => 0), rI cI a_next 5 (fun _ => 0)] H := hP
  have hD : va_D A [(a0, .inr (2, [.ref a_least, .ref a_next, .int 0, .int 0, .int 0])), rI cI a_least 5 (fun _ => 0), rI cI a_next 5 (fun _ => 0)] := hD
  have hP9 := hP.sub (ws' := [oX3 a0 a_least a_next 0 0 0, rI cI a_least 5 (fun _ => 0), rI cI a_next 5 (fun _ => 0)]) [0, 1, 2] rfl
  have hD9 := hD.sub (ws' := [oX3 a0 a_least a_next 0 0 0, rI cI a_least 5 (fun _ => 0), rI cI a_next 5 (fun _ => 0)]) [0, 1, 2] rfl rfl
  exact W.vret hx hb hr (fun t ht hW => ⟨⟨fun k => [a_least, a_next].getD k 0, rfl, trivial, by show va_P D vwCl _ t.heap ∧ va_D A _; rw [ht]; exact ⟨hP9, hD9⟩⟩, hS.F ht⟩) hS.2.2 dX3_init_18
set_option maxHeartbeats 4000000 in
set_option maxRecDepth 100000 in
theorem k_X4_init (l : Launch) (hl0 : l.stackTraces = false) (D : va_G) (cI cJ cZ cS : ClassId) (B0 : Nat) (sz : Nat) (a0 : Nat) : Met l yX4_init (wz yX4_init cX4_init 1 none) ({ frames := 1, cells := 6, slots := 760, locals := 40 }) (va_Pc [.ref a0] (wp D cI cJ cZ cS B0 [(a0, .inr (3, [.null, .null, .null, .null, .null, .null]))] sz)) (va_Qv (fun (_ : Nat → Nat) => True) (fun q t => va_P D vwCl [oX4 a0 (q 0) (q 1) (q 2) (q 3) (q 4) (q 5), rI cI (q 0) 10 (fun _ => 0), rI cI (q 1) 6 (fun _ => 0), rI cI (q 2) 6 (fun _ => 0), rJ cJ (q 3) 6 (fun _ => 0), rJ cJ (q 4) 366 (fun _ => 0), rI cI (q 5) 366 (fun _ => 0)] t.heap ∧ va_D (va_A [(a0, .inr (3, [.null, .null, .null, .null, .null, .null]))] sz) [oX4 a0 (q 0) (q 1) (q 2) (q 3) (q 4) (q 5), rI cI (q 0) 10 (fun _ => 0), rI cI (q 1) 6 (fun _ => 0), rI cI (q 2) 6 (fun _ => 0), rJ cJ (q 3) 6 (fun _ => 0), rJ cJ (q 4) 366 (fun _ => 0), rI cI (q 5) 366 (fun _ => 0)]) (va_A [(a0, .inr (3, [.null, .null, .null, .null, .null, .null]))] sz)) 6 760 (va_A [(a0, .inr (3, [.null, .null, .null, .null, .null, .null]))] sz) := by
  refine Met.ofW (cc := cX4_init) (maxL := 1) (ret := none) (by decide) rfl ?_
  intro p e s m args below meth c s₁ B hml hv
  obtain ⟨rfl, hsz, hP, hK, hD0, hB0, hE⟩ := hv
  subst hsz
  have hx := B.exec
  have hb := B.bytes
  have hr := B.returns
  have hts := atoms_spec (ws := (wz yX4_init cX4_init 1 none)) B.pre
  have hown : s.vm.findClass RX4 = some m.cls := findClass_of_methodNamed B.named
  have hlocks := B.notSynchronized
  have hin : meth.name = "<init>" := (name_of_methodNamed B.named B.method).1
  have hD := hD0.self (sz := s.heap.size)
  have hAB : ∀ q : Nat, va_A [(a0, .inr (3, [.null, .null, .null, .null, .null, .null]))] s.heap.size q → B0 ≤ q := va_A_B hD0 hB0
  generalize hAe : va_A [(a0, .inr (3, [.null, .null, .null, .null, .null, .null]))] s.heap.size = A at hD hAB ⊢
  have hA : ∀ q : Nat, s.heap.size ≤ q → A q := fun q h => by rw [← hAe]; exact Or.inr h
  have hS : va_S A s.heap s.heap [] := va_S.rf
  have hBn := fun (H : Heap) (locs : List Loc) (h : va_S A s.heap H locs) => Nat.le_trans hB0 h.1
  have hEn := fun (H : Heap) (locs : List Loc) (h : va_S A s.heap H locs) => gE_now hE h hAB
  have hl := lv_entry ([.ref a0]) (n := 1) (Nat.le_of_ble_eq_true rfl)
  rw [lg_entry_eq]
  generalize (lg_sl ([.ref a0]) ++ List.replicate (1 - (lg_sl ([.ref a0])).length) Slot.unset).toArray = ls at hl ⊢
  have hl : lv_has ls 1 [(0, .ref a0)] := hl
  obtain ⟨H, hHe⟩ : ∃ H : Heap, H = s.heap := ⟨_, rfl⟩
  have hP : va_P D vwCl [(a0, .inr (3, [.null, .null, .null, .null, .null, .null]))] H := by rw [hHe]; exact hP
  have hS : va_S A s.heap H [] := by rw [hHe]; exact hS
  refine W_heq hHe ?_
  refine lv_aload_n hx hb dX4_init_0 rfl (lv_at hl 0 rfl) ?_
  refine W.objInit hx hb hown (hts _ (mb tb_204)) (hts _ (mb tb_25)) (hts _ (mb tb_26)) rfl (by rw [hml]; exact hl.1) rfl dX4_init_1 (Nat.le_of_ble_eq_true rfl) (Nat.le_of_ble_eq_true rfl) ?_
  refine W.eq (g2 := F0 m 4 ls []) rfl ?_
  refine lv_aload_n hx hb dX4_init_4 rfl (lv_at hl 0 rfl) ?_
  refine lv_bipush (v := 10) hx hb dX4_init_5 (by decide) ?_
  refine va_newa (atype := .int) (ty := .int) (N' := 10) (a0 := (10, (.inl (fun _ => 0)))) hx hb (hts _ (mb tb_85)) rfl hK hP hD hS hA (fun _ => rfl) (by decide +kernel) (by decide +kernel) (Nat.le_of_ble_eq_true rfl) (Nat.le_of_ble_eq_true rfl) (Nat.le_of_ble_eq_true rfl) dX4_init_7 (fun a_terms cN H hK1 hP hD hS => ?_)
  have hcN := (ty_one hK1 0 (by rfl) rfl).symm
  subst hcN
  have hP : va_P D vwCl [(a0, .inr (3, [.null, .null, .null, .null, .null, .null])), rI cI a_terms 10 (fun _ => 0)] H := hP
  have hD : va_D A [(a0, .inr (3, [.null, .null, .null, .null, .null, .null])), rI cI a_terms 10 (fun _ => 0)] := hD
  refine W.widen (k := 1) (n := 10) (Nat.le_of_ble_eq_true rfl) (Nat.le_of_ble_eq_true rfl) ?_
  refine va_putF (D := D) (ci := 3) (v := .ref a_terms) (ty := .array .int) (C := RX4) (T := TX4) (N := 6) hx hb hts (fun w h => mb (iX4 w h)) tyX4 tyX4_ok nmX4 hown hK hP hD hS 0 rfl rfl 0 (by decide) (hts _ (mb tb_205)) (fun _ h9 => h9) rfl hin rfl (by decide +kernel) rfl rfl (Nat.le_of_ble_eq_true rfl) dX4_init_9 (fun H locs hP hD hS => ?_)
  have hP : va_P D vwCl [(a0, .inr (3, [.ref a_terms, .null, .null, .null, .null, .null])), rI cI a_terms 10 (fun _ => 0)] H := hP
  have hD : va_D A [(a0, .inr (3, [.ref a_terms, .null, .null, .null, .null, .null])), rI cI a_terms 10 (fun _ => 0)] := hD
  refine lv_aload_n hx hb dX4_init_12 rfl (lv_at hl 0 rfl) ?_
  refine lv_bipush (v := 6) hx hb dX4_init_13 (by decide) ?_
  refine va_newa (atype := .int) (ty := .int) (N' := 6) (a0 := (6, (.inl (fun _ => 0)))) hx hb (hts _ (mb tb_85)) rfl hK hP hD hS hA (fun _ => rfl) (by decide +kernel) (by decide +kernel) (Nat.le_of_ble_eq_true rfl) (Nat.le_of_ble_eq_true rfl) (Nat.le_of_ble_eq_true rfl) dX4_init_15 (fun a_low cN H hK1 hP hD hS => ?_)
  have hcN := (ty_one hK1 0 (by rfl) rfl).symm
  subst hcN
  have hP : va_P D vwCl [(a0, .inr (3, [.ref a_terms, .null, .null, .null, .null, .null])), rI cI a_terms 10 (fun _ => 0), rI cI a_low 6 (fun _ => 0)] H := hP
  have hD : va_D A [(a0, .inr (3, [.ref a_terms, .null, .null, .null, .null, .null])), rI cI a_terms 10 (fun _ => 0), rI cI a_low 6 (fun _ => 0)] := hD
  refine W.widen (k := 2) (n := 16) (Nat.le_of_ble_eq_true rfl) (Nat.le_of_ble_eq_true rfl) ?_
  refine va_putF (D := D) (ci := 3) (v := .ref a_low) (ty := .array .int) (C := RX4) (T := TX4) (N := 6) hx hb hts (fun w h => mb (iX4 w h)) tyX4 tyX4_ok nmX4 hown hK hP hD hS 0 rfl rfl 1 (by decide) (hts _ (mb tb_206)) (fun _ h9 => h9) rfl hin rfl (by decide +kernel) rfl rfl (Nat.le_of_ble_eq_true rfl) dX4_init_17 (fun H locs hP hD hS => ?_)
  have hP : va_P D vwCl [(a0, .inr (3, [.ref a_terms, .ref a_low, .null, .null, .null, .null])), rI cI a_terms 10 (fun _ => 0), rI cI a_low 6 (fun _ => 0)] H := hP
  have hD : va_D A [(a0, .inr (3, [.ref a_terms, .ref a_low, .null, .null, .null, .null])), rI cI a_terms 10 (fun _ => 0), rI cI a_low 6 (fun _ => 0)] := hD
  refine lv_aload_n hx hb dX4_init_20 rfl (lv_at hl 0 rfl) ?_
  refine lv_bipush (v := 6) hx hb dX4_init_21 (by decide) ?_
  refine va_newa (atype := .int) (ty := .int) (N' := 6) (a0 := (6, (.inl (fun _ => 0)))) hx hb (hts _ (mb tb_85)) rfl hK hP hD hS hA (fun _ => rfl) (by decide +kernel) (by decide +kernel) (Nat.le_of_ble_eq_true rfl) (Nat.le_of_ble_eq_true rfl) (Nat.le_of_ble_eq_true rfl) dX4_init_23 (fun a_high cN H hK1 hP hD hS => ?_)
  have hcN := (ty_one hK1 0 (by rfl) rfl).symm
  subst hcN
  have hP : va_P D vwCl [(a0, .inr (3, [.ref a_terms, .ref a_low, .null, .null, .null, .null])), rI cI a_terms 10 (fun _ => 0), rI cI a_low 6 (fun _ => 0), rI cI a_high 6 (fun _ => 0)] H := hP
  have hD : va_D A [(a0, .inr (3, [.ref a_terms, .ref a_low, .null, .null, .null, .null])), rI cI a_terms 10 (fun _ => 0), rI cI a_low 6 (fun _ => 0), rI cI a_high 6 (fun _ => 0)] := hD
  refine W.widen (k := 3) (n := 22) (Nat.le_of_ble_eq_true rfl) (Nat.le_of_ble_eq_true rfl) ?_
  refine va_putF (D := D) (ci := 3) (v := .ref a_high) (ty := .array .int) (C := RX4) (T := TX4) (N := 6) hx hb hts (fun w h => mb (iX4 w h)) tyX4 tyX4_ok nmX4 hown hK hP hD hS 0 rfl rfl 2 (by decide) (hts _ (mb tb_208)) (fun _ h9 => h9) rfl hin rfl (by decide +kernel) rfl rfl (Nat.le_of_ble_eq_true rfl) dX4_init_25 (fun H locs hP hD hS => ?_)
  have hP : va_P D vwCl [(a0, .inr (3, [.ref a_terms, .ref a_low, .ref a_high, .null, .null, .null])), rI cI a_terms 10 (fun _ => 0), rI cI a_low 6 (fun _ => 0), rI cI a_high 6 (fun _ => 0)] H := hP
  have hD : va_D A [(a0, .inr (3, [.ref a_terms, .ref a_low, .ref a_high, .null, .null, .null])), rI cI a_terms 10 (fun _ => 0), rI cI a_low 6 (fun _ => 0), rI cI a_high 6 (fun _ => 0)] := hD
  refine lv_aload_n hx hb dX4_init_28 rfl (lv_at hl 0 rfl) ?_
  refine lv_bipush (v := 6) hx hb dX4_init_29 (by decide) ?_
  refine va_newa (atype := .long) (ty := .long) (N' := 6) (a0 := (6, (.inr (.inl (fun _ => 0))))) hx hb (hts _ (mb tb_229)) rfl hK hP hD hS hA (fun _ => rfl) (by decide +kernel) (by decide +kernel) (Nat.le_of_ble_eq_true rfl) (Nat.le_of_ble_eq_true rfl) (Nat.le_of_ble_eq_true rfl) dX4_init_31 (fun a_bottom cN H hK1 hP hD hS => ?_)
  have hcN := (ty_one hK1 1 (by rfl) rfl).symm
  subst hcN
  have hP : va_P D vwCl [(a0, .inr (3, [.ref a_terms, .ref a_low, .ref a_high, .null, .null, .null])), rI cI a_terms 10 (fun _ => 0), rI cI a_low 6 (fun _ => 0), rI cI a_high 6 (fun _ => 0), rJ cJ a_bottom 6 (fun _ => 0)] H := hP
  have hD : va_D A [(a0, .inr (3, [.ref a_terms, .ref a_low, .ref a_high, .null, .null, .null])), rI cI a_terms 10 (fun _ => 0), rI cI a_low 6 (fun _ => 0), rI cI a_high 6 (fun _ => 0), rJ cJ a_bottom 6 (fun _ => 0)] := hD
  refine W.widen (k := 4) (n := 28) (Nat.le_of_ble_eq_true rfl) (Nat.le_of_ble_eq_true rfl) ?_
  refine va_putF (D := D) (ci := 3) (v := .ref a_bottom) (ty := .array .long) (C := RX4) (T := TX4) (N := 6) hx hb hts (fun w h => mb (iX4 w h)) tyX4 tyX4_ok nmX4 hown hK hP hD hS 0 rfl rfl 3 (by decide) (hts _ (mb tb_210)) (fun _ h9 => h9) rfl hin rfl (by decide +kernel) rfl rfl (Nat.le_of_ble_eq_true rfl) dX4_init_33 (fun H locs hP hD hS => ?_)
  have hP : va_P D vwCl [(a0, .inr (3, [.ref a_terms, .ref a_low, .ref a_high, .ref a_bottom, .null, .null])), rI cI a_terms 10 (fun _ => 0), rI cI a_low 6 (fun _ => 0), rI cI a_high 6 (fun _ => 0), rJ cJ a_bottom 6 (fun _ => 0)] H := hP
  have hD : va_D A [(a0, .inr (3, [.ref a_terms, .ref a_low, .ref a_high, .ref a_bottom, .null, .null])), rI cI a_terms 10 (fun _ => 0), rI cI a_low 6 (fun _ => 0), rI cI a_high 6 (fun _ => 0), rJ cJ a_bottom 6 (fun _ => 0)] := hD
  refine lv_aload_n hx hb dX4_init_36 rfl (lv_at hl 0 rfl) ?_
  refine lv_sipush (v := 366) hx hb dX4_init_37 (by decide) ?_
  refine va_newa (atype := .long) (ty := .long) (N' := 366) (a0 := (366, (.inr (.inl (fun _ => 0))))) hx hb (hts _ (mb tb_229)) rfl hK hP hD hS hA (fun _ => rfl) (by decide +kernel) (by decide +kernel) (Nat.le_of_ble_eq_true rfl) (Nat.le_of_ble_eq_true rfl) (Nat.le_of_ble_eq_true rfl) dX4_init_40 (fun a_cost cN H hK1 hP hD hS => ?_)
  have hcN := (ty_one hK1 1 (by rfl) rfl).symm
  subst hcN
  have hP : va_P D vwCl [(a0, .inr (3, [.ref a_terms, .ref a_low, .ref a_high, .ref a_bottom, .null, .null])), rI cI a_terms 10 (fun _ => 0), rI cI a_low 6 (fun _ => 0), rI cI a_high 6 (fun _ => 0), rJ cJ a_bottom 6 (fun _ => 0), rJ cJ a_cost 366 (fun _ => 0)] H := hP
  have hD : va_D A [(a0, .inr (3, [.ref a_terms, .ref a_low, .ref a_high, .ref a_bottom, .null, .null])), rI cI a_terms 10 (fun _ => 0), rI cI a_low 6 (fun _ => 0), rI cI a_high 6 (fun _ => 0), rJ cJ a_bottom 6 (fun _ => 0), rJ cJ a_cost 366 (fun _ => 0)] := hD
  refine W.widen (k := 5) (n := 394) (Nat.le_of_ble_eq_true rfl) (Nat.le_of_ble_eq_true rfl) ?_
  refine va_putF (D := D) (ci := 3) (v := .ref a_cost) (ty := .array .long) (C := RX4) (T := TX4) (N := 6) hx hb hts (fun w h => mb (iX4 w h)) tyX4 tyX4_ok nmX4 hown hK hP hD hS 0 rfl rfl 4 (by decide) (hts _ (mb tb_212)) (fun _ h9 => h9) rfl hin rfl (by decide +kernel) rfl rfl (Nat.le_of_ble_eq_true rfl) dX4_init_42 (fun H locs hP hD hS => ?_)
  have hP : va_P D vwCl [(a0, .inr (3, [.ref a_terms, .ref a_low, .ref a_high, .ref a_bottom, .ref a_cost, .null])), rI cI a_terms 10 (fun _ => 0), rI cI a_low 6 (fun _ => 0), rI cI a_high 6 (fun _ => 0), rJ cJ a_bottom 6 (fun _ => 0), rJ cJ a_cost 366 (fun _ => 0)] H := hP
  have hD : va_D A [(a0, .inr (3, [.ref a_terms, .ref a_low, .ref a_high, .ref a_bottom, .ref a_cost, .null])), rI cI a_terms 10 (fun _ => 0), rI cI a_low 6 (fun _ => 0), rI cI a_high 6 (fun _ => 0), rJ cJ a_bottom 6 (fun _ => 0), rJ cJ a_cost 366 (fun _ => 0)] := hD
  refine lv_aload_n hx hb dX4_init_45 rfl (lv_at hl 0 rfl) ?_
  refine lv_sipush (v := 366) hx hb dX4_init_46 (by decide) ?_
  refine va_newa (atype := .int) (ty := .int) (N' := 366) (a0 := (366, (.inl (fun _ => 0)))) hx hb (hts _ (mb tb_85)) rfl hK hP hD hS hA (fun _ => rfl) (by decide +kernel) (by decide +kernel) (Nat.le_of_ble_eq_true rfl) (Nat.le_of_ble_eq_true rfl) (Nat.le_of_ble_eq_true rfl) dX4_init_49 (fun a_act cN H hK1 hP hD hS => ?_)
  have hcN := (ty_one hK1 0 (by rfl) rfl).symm
  subst hcN
  have hP : va_P D vwCl [(a0, .inr (3, [.ref a_terms, .ref a_low, .ref a_high, .ref a_bottom, .ref a_cost, .null])), rI cI a_terms 10 (fun _ => 0), rI cI a_low 6 (fun _ => 0), rI cI a_high 6 (fun _ => 0), rJ cJ a_bottom 6 (fun _ => 0), rJ cJ a_cost 366 (fun _ => 0), rI cI a_act 366 (fun _ => 0)] H := hP
  have hD : va_D A [(a0, .inr (3, [.ref a_terms, .ref a_low, .ref a_high, .ref a_bottom, .ref a_cost, .null])), rI cI a_terms 10 (fun _ => 0), rI cI a_low 6 (fun _ => 0), rI cI a_high 6 (fun _ => 0), rJ cJ a_bottom 6 (fun _ => 0), rJ cJ a_cost 366 (fun _ => 0), rI cI a_act 366 (fun _ => 0)] := hD
  refine W.widen (k := 6) (n := 760) (Nat.le_of_ble_eq_true rfl) (Nat.le_of_ble_eq_true rfl) ?_
  refine va_putF (D := D) (ci := 3) (v := .ref a_act) (ty := .array .int) (C := RX4) (T := TX4) (N := 6) hx hb hts (fun w h => mb (iX4 w h)) tyX4 tyX4_ok nmX4 hown hK hP hD hS 0 rfl rfl 5 (by decide) (hts _ (mb tb_214)) (fun _ h9 => h9) rfl hin rfl (by decide +kernel) rfl rfl (Nat.le_of_ble_eq_true rfl) dX4_init_51 (fun H locs hP hD hS => ?_)
  have hP : va_P D vwCl [(a0, .inr (3, [.ref a_terms, .ref a_low, .ref a_high, .ref a_bottom, .ref a_cost, .ref a_act])), rI cI a_terms 10 (fun _ => 0), rI cI a_low 6 (fun _ => 0), rI cI a_high 6 (fun _ => 0), rJ cJ a_bottom 6 (fun _ => 0), rJ cJ a_cost 366 (fun _ => 0), rI cI a_act 366 (fun _ => 0)] H := hP
  have hD : va_D A [(a0, .inr (3, [.ref a_terms, .ref a_low, .ref a_high, .ref a_bottom, .ref a_cost, .ref a_act])), rI cI a_terms 10 (fun _ => 0), rI cI a_low 6 (fun _ => 0), rI cI a_high 6 (fun _ => 0), rJ cJ a_bottom 6 (fun _ => 0), rJ cJ a_cost 366 (fun _ => 0), rI cI a_act 366 (fun _ => 0)] := hD
  have hP9 := hP.sub (ws' := [oX4 a0 a_terms a_low a_high a_bottom a_cost a_act, rI cI a_terms 10 (fun _ => 0), rI cI a_low 6 (fun _ => 0), rI cI a_high 6 (fun _ => 0), rJ cJ a_bottom 6 (fun _ => 0), rJ cJ a_cost 366 (fun _ => 0), rI cI a_act 366 (fun _ => 0)]) [0, 1, 2, 3, 4, 5, 6] rfl
  have hD9 := hD.sub (ws' := [oX4 a0 a_terms a_low a_high a_bottom a_cost a_act, rI cI a_terms 10 (fun _ => 0), rI cI a_low 6 (fun _ => 0), rI cI a_high 6 (fun _ => 0), rJ cJ a_bottom 6 (fun _ => 0), rJ cJ a_cost 366 (fun _ => 0), rI cI a_act 366 (fun _ => 0)]) [0, 1, 2, 3, 4, 5, 6] rfl rfl
  exact W.vret hx hb hr (fun t ht hW => ⟨⟨fun k => [a_terms, a_low, a_high, a_bottom, a_cost, a_act].getD k 0, rfl, trivial, by show va_P D vwCl _ t.heap ∧ va_D A _; rw [ht]; exact ⟨hP9, hD9⟩⟩, hS.F ht⟩) hS.2.2 dX4_init_54
set_option maxHeartbeats 4000000 in
set_option maxRecDepth 100000 in
theorem k_X5_init (l : Launch) (hl0 : l.stackTraces = false) (D : va_G) (cI cJ cZ cS : ClassId) (B0 : Nat) (sz : Nat) (a0 : Nat) : Met l yX5_init (wz yX5_init cX5_init 1 none) ({ frames := 1, cells := 4, slots := 192, locals := 40 }) (va_Pc [.ref a0] (wp D cI cJ cZ cS B0 [(a0, .inr (4, [.int 0, .int 0, .int 0, .int 0, .int 0, .long 0, .null, .null, .null, .null]))] sz)) (va_Qv (fun (_ : Nat → Nat) => True) (fun q t => va_P D vwCl [oX5 a0 0 0 0 0 0 0 (q 0) (q 1) (q 2) (q 3), rI cI (q 0) 48 (fun _ => 0), rI cI (q 1) 48 (fun _ => 0), rI cI (q 2) 48 (fun _ => 0), rI cI (q 3) 48 (fun _ => 0)] t.heap ∧ va_D (va_A [(a0, .inr (4, [.int 0, .int 0, .int 0, .int 0, .int 0, .long 0, .null, .null, .null, .null]))] sz) [oX5 a0 0 0 0 0 0 0 (q 0) (q 1) (q 2) (q 3), rI cI (q 0) 48 (fun _ => 0), rI cI (q 1) 48 (fun _ => 0), rI cI (q 2) 48 (fun _ => 0), rI cI (q 3) 48 (fun _ => 0)]) (va_A [(a0, .inr (4, [.int 0, .int 0, .int 0, .int 0, .int 0, .long 0, .null, .null, .null, .null]))] sz)) 4 192 (va_A [(a0, .inr (4, [.int 0, .int 0, .int 0, .int 0, .int 0, .long 0, .null, .null, .null, .null]))] sz) := by
  refine Met.ofW (cc := cX5_init) (maxL := 1) (ret := none) (by decide) rfl ?_
  intro p e s m args below meth c s₁ B hml hv
  obtain ⟨rfl, hsz, hP, hK, hD0, hB0, hE⟩ := hv
  subst hsz
  have hx := B.exec
  have hb := B.bytes
  have hr := B.returns
  have hts := atoms_spec (ws := (wz yX5_init cX5_init 1 none)) B.pre
  have hown : s.vm.findClass RX5 = some m.cls := findClass_of_methodNamed B.named
  have hlocks := B.notSynchronized
  have hin : meth.name = "<init>" := (name_of_methodNamed B.named B.method).1
  have hD := hD0.self (sz := s.heap.size)
  have hAB : ∀ q : Nat, va_A [(a0, .inr (4, [.int 0, .int 0, .int 0, .int 0, .int 0, .long 0, .null, .null, .null, .null]))] s.heap.size q → B0 ≤ q := va_A_B hD0 hB0
  generalize hAe : va_A [(a0, .inr (4, [.int 0, .int 0, .int 0, .int 0, .int 0, .long 0, .null, .null, .null, .null]))] s.heap.size = A at hD hAB ⊢
  have hA : ∀ q : Nat, s.heap.size ≤ q → A q := fun q h => by rw [← hAe]; exact Or.inr h
  have hS : va_S A s.heap s.heap [] := va_S.rf
  have hBn := fun (H : Heap) (locs : List Loc) (h : va_S A s.heap H locs) => Nat.le_trans hB0 h.1
  have hEn := fun (H : Heap) (locs : List Loc) (h : va_S A s.heap H locs) => gE_now hE h hAB
  have hl := lv_entry ([.ref a0]) (n := 1) (Nat.le_of_ble_eq_true rfl)
  rw [lg_entry_eq]
  generalize (lg_sl ([.ref a0]) ++ List.replicate (1 - (lg_sl ([.ref a0])).length) Slot.unset).toArray = ls at hl ⊢
  have hl : lv_has ls 1 [(0, .ref a0)] := hl
  obtain ⟨H, hHe⟩ : ∃ H : Heap, H = s.heap := ⟨_, rfl⟩
  have hP : va_P D vwCl [(a0, .inr (4, [.int 0, .int 0, .int 0, .int 0, .int 0, .long 0, .null, .null, .null, .null]))] H := by rw [hHe]; exact hP
  have hS : va_S A s.heap H [] := by rw [hHe]; exact hS
  refine W_heq hHe ?_
  refine lv_aload_n hx hb dX5_init_0 rfl (lv_at hl 0 rfl) ?_
  refine W.objInit hx hb hown (hts _ (mb tb_44)) (hts _ (mb tb_25)) (hts _ (mb tb_26)) rfl (by rw [hml]; exact hl.1) rfl dX5_init_1 (Nat.le_of_ble_eq_true rfl) (Nat.le_of_ble_eq_true rfl) ?_
  refine W.eq (g2 := F0 m 4 ls []) rfl ?_
  refine lv_aload_n hx hb dX5_init_4 rfl (lv_at hl 0 rfl) ?_
  refine lv_bipush (v := 48) hx hb dX5_init_5 (by decide) ?_
  refine va_newa (atype := .int) (ty := .int) (N' := 48) (a0 := (48, (.inl (fun _ => 0)))) hx hb (hts _ (mb tb_85)) rfl hK hP hD hS hA (fun _ => rfl) (by decide +kernel) (by decide +kernel) (Nat.le_of_ble_eq_true rfl) (Nat.le_of_ble_eq_true rfl) (Nat.le_of_ble_eq_true rfl) dX5_init_7 (fun a_lot cN H hK1 hP hD hS => ?_)
  have hcN := (ty_one hK1 0 (by rfl) rfl).symm
  subst hcN
  have hP : va_P D vwCl [(a0, .inr (4, [.int 0, .int 0, .int 0, .int 0, .int 0, .long 0, .null, .null, .null, .null])), rI cI a_lot 48 (fun _ => 0)] H := hP
  have hD : va_D A [(a0, .inr (4, [.int 0, .int 0, .int 0, .int 0, .int 0, .long 0, .null, .null, .null, .null])), rI cI a_lot 48 (fun _ => 0)] := hD
  refine W.widen (k := 1) (n := 48) (Nat.le_of_ble_eq_true rfl) (Nat.le_of_ble_eq_true rfl) ?_
  refine va_putF (D := D) (ci := 4) (v := .ref a_lot) (ty := .array .int) (C := RX5) (T := TX5) (N := 10) hx hb hts (fun w h => mb (iX5 w h)) tyX5 tyX5_ok nmX5 hown hK hP hD hS 0 rfl rfl 6 (by decide) (hts _ (mb tb_57)) (fun _ h9 => h9) rfl hin rfl (by decide +kernel) rfl rfl (Nat.le_of_ble_eq_true rfl) dX5_init_9 (fun H locs hP hD hS => ?_)
  have hP : va_P D vwCl [(a0, .inr (4, [.int 0, .int 0, .int 0, .int 0, .int 0, .long 0, .ref a_lot, .null, .null, .null])), rI cI a_lot 48 (fun _ => 0)] H := hP
  have hD : va_D A [(a0, .inr (4, [.int 0, .int 0, .int 0, .int 0, .int 0, .long 0, .ref a_lot, .null, .null, .null])), rI cI a_lot 48 (fun _ => 0)] := hD
  refine lv_aload_n hx hb dX5_init_12 rfl (lv_at hl 0 rfl) ?_
  refine lv_bipush (v := 48) hx hb dX5_init_13 (by decide) ?_
  refine va_newa (atype := .int) (ty := .int) (N' := 48) (a0 := (48, (.inl (fun _ => 0)))) hx hb (hts _ (mb tb_85)) rfl hK hP hD hS hA (fun _ => rfl) (by decide +kernel) (by decide +kernel) (Nat.le_of_ble_eq_true rfl) (Nat.le_of_ble_eq_true rfl) (Nat.le_of_ble_eq_true rfl) dX5_init_15 (fun a_pieces cN H hK1 hP hD hS => ?_)
  have hcN := (ty_one hK1 0 (by rfl) rfl).symm
  subst hcN
  have hP : va_P D vwCl [(a0, .inr (4, [.int 0, .int 0, .int 0, .int 0, .int 0, .long 0, .ref a_lot, .null, .null, .null])), rI cI a_lot 48 (fun _ => 0), rI cI a_pieces 48 (fun _ => 0)] H := hP
  have hD : va_D A [(a0, .inr (4, [.int 0, .int 0, .int 0, .int 0, .int 0, .long 0, .ref a_lot, .null, .null, .null])), rI cI a_lot 48 (fun _ => 0), rI cI a_pieces 48 (fun _ => 0)] := hD
  refine W.widen (k := 2) (n := 96) (Nat.le_of_ble_eq_true rfl) (Nat.le_of_ble_eq_true rfl) ?_
  refine va_putF (D := D) (ci := 4) (v := .ref a_pieces) (ty := .array .int) (C := RX5) (T := TX5) (N := 10) hx hb hts (fun w h => mb (iX5 w h)) tyX5 tyX5_ok nmX5 hown hK hP hD hS 0 rfl rfl 7 (by decide) (hts _ (mb tb_59)) (fun _ h9 => h9) rfl hin rfl (by decide +kernel) rfl rfl (Nat.le_of_ble_eq_true rfl) dX5_init_17 (fun H locs hP hD hS => ?_)
  have hP : va_P D vwCl [(a0, .inr (4, [.int 0, .int 0, .int 0, .int 0, .int 0, .long 0, .ref a_lot, .ref a_pieces, .null, .null])), rI cI a_lot 48 (fun _ => 0), rI cI a_pieces 48 (fun _ => 0)] H := hP
  have hD : va_D A [(a0, .inr (4, [.int 0, .int 0, .int 0, .int 0, .int 0, .long 0, .ref a_lot, .ref a_pieces, .null, .null])), rI cI a_lot 48 (fun _ => 0), rI cI a_pieces 48 (fun _ => 0)] := hD
  refine lv_aload_n hx hb dX5_init_20 rfl (lv_at hl 0 rfl) ?_
  refine lv_bipush (v := 48) hx hb dX5_init_21 (by decide) ?_
  refine va_newa (atype := .int) (ty := .int) (N' := 48) (a0 := (48, (.inl (fun _ => 0)))) hx hb (hts _ (mb tb_85)) rfl hK hP hD hS hA (fun _ => rfl) (by decide +kernel) (by decide +kernel) (Nat.le_of_ble_eq_true rfl) (Nat.le_of_ble_eq_true rfl) (Nat.le_of_ble_eq_true rfl) dX5_init_23 (fun a_mark cN H hK1 hP hD hS => ?_)
  have hcN := (ty_one hK1 0 (by rfl) rfl).symm
  subst hcN
  have hP : va_P D vwCl [(a0, .inr (4, [.int 0, .int 0, .int 0, .int 0, .int 0, .long 0, .ref a_lot, .ref a_pieces, .null, .null])), rI cI a_lot 48 (fun _ => 0), rI cI a_pieces 48 (fun _ => 0), rI cI a_mark 48 (fun _ => 0)] H := hP
  have hD : va_D A [(a0, .inr (4, [.int 0, .int 0, .int 0, .int 0, .int 0, .long 0, .ref a_lot, .ref a_pieces, .null, .null])), rI cI a_lot 48 (fun _ => 0), rI cI a_pieces 48 (fun _ => 0), rI cI a_mark 48 (fun _ => 0)] := hD
  refine W.widen (k := 3) (n := 144) (Nat.le_of_ble_eq_true rfl) (Nat.le_of_ble_eq_true rfl) ?_
  refine va_putF (D := D) (ci := 4) (v := .ref a_mark) (ty := .array .int) (C := RX5) (T := TX5) (N := 10) hx hb hts (fun w h => mb (iX5 w h)) tyX5 tyX5_ok nmX5 hown hK hP hD hS 0 rfl rfl 8 (by decide) (hts _ (mb tb_61)) (fun _ h9 => h9) rfl hin rfl (by decide +kernel) rfl rfl (Nat.le_of_ble_eq_true rfl) dX5_init_25 (fun H locs hP hD hS => ?_)
  have hP : va_P D vwCl [(a0, .inr (4, [.int 0, .int 0, .int 0, .int 0, .int 0, .long 0, .ref a_lot, .ref a_pieces, .ref a_mark, .null])), rI cI a_lot 48 (fun _ => 0), rI cI a_pieces 48 (fun _ => 0), rI cI a_mark 48 (fun _ => 0)] H := hP
  have hD : va_D A [(a0, .inr (4, [.int 0, .int 0, .int 0, .int 0, .int 0, .long 0, .ref a_lot, .ref a_pieces, .ref a_mark, .null])), rI cI a_lot 48 (fun _ => 0), rI cI a_pieces 48 (fun _ => 0), rI cI a_mark 48 (fun _ => 0)] := hD
  refine lv_aload_n hx hb dX5_init_28 rfl (lv_at hl 0 rfl) ?_
  refine lv_bipush (v := 48) hx hb dX5_init_29 (by decide) ?_
  refine va_newa (atype := .int) (ty := .int) (N' := 48) (a0 := (48, (.inl (fun _ => 0)))) hx hb (hts _ (mb tb_85)) rfl hK hP hD hS hA (fun _ => rfl) (by decide +kernel) (by decide +kernel) (Nat.le_of_ble_eq_true rfl) (Nat.le_of_ble_eq_true rfl) (Nat.le_of_ble_eq_true rfl) dX5_init_31 (fun a_byDistance cN H hK1 hP hD hS => ?_)
  have hcN := (ty_one hK1 0 (by rfl) rfl).symm
  subst hcN
  have hP : va_P D vwCl [(a0, .inr (4, [.int 0, .int 0, .int 0, .int 0, .int 0, .long 0, .ref a_lot, .ref a_pieces, .ref a_mark, .null])), rI cI a_lot 48 (fun _ => 0), rI cI a_pieces 48 (fun _ => 0), rI cI a_mark 48 (fun _ => 0), rI cI a_byDistance 48 (fun _ => 0)] H := hP
  have hD : va_D A [(a0, .inr (4, [.int 0, .int 0, .int 0, .int 0, .int 0, .long 0, .ref a_lot, .ref a_pieces, .ref a_mark, .null])), rI cI a_lot 48 (fun _ => 0), rI cI a_pieces 48 (fun _ => 0), rI cI a_mark 48 (fun _ => 0), rI cI a_byDistance 48 (fun _ => 0)] := hD
  refine W.widen (k := 4) (n := 192) (Nat.le_of_ble_eq_true rfl) (Nat.le_of_ble_eq_true rfl) ?_
  refine va_putF (D := D) (ci := 4) (v := .ref a_byDistance) (ty := .array .int) (C := RX5) (T := TX5) (N := 10) hx hb hts (fun w h => mb (iX5 w h)) tyX5 tyX5_ok nmX5 hown hK hP hD hS 0 rfl rfl 9 (by decide) (hts _ (mb tb_63)) (fun _ h9 => h9) rfl hin rfl (by decide +kernel) rfl rfl (Nat.le_of_ble_eq_true rfl) dX5_init_33 (fun H locs hP hD hS => ?_)
  have hP : va_P D vwCl [(a0, .inr (4, [.int 0, .int 0, .int 0, .int 0, .int 0, .long 0, .ref a_lot, .ref a_pieces, .ref a_mark, .ref a_byDistance])), rI cI a_lot 48 (fun _ => 0), rI cI a_pieces 48 (fun _ => 0), rI cI a_mark 48 (fun _ => 0), rI cI a_byDistance 48 (fun _ => 0)] H := hP
  have hD : va_D A [(a0, .inr (4, [.int 0, .int 0, .int 0, .int 0, .int 0, .long 0, .ref a_lot, .ref a_pieces, .ref a_mark, .ref a_byDistance])), rI cI a_lot 48 (fun _ => 0), rI cI a_pieces 48 (fun _ => 0), rI cI a_mark 48 (fun _ => 0), rI cI a_byDistance 48 (fun _ => 0)] := hD
  have hP9 := hP.sub (ws' := [oX5 a0 0 0 0 0 0 0 a_lot a_pieces a_mark a_byDistance, rI cI a_lot 48 (fun _ => 0), rI cI a_pieces 48 (fun _ => 0), rI cI a_mark 48 (fun _ => 0), rI cI a_byDistance 48 (fun _ => 0)]) [0, 1, 2, 3, 4] rfl
  have hD9 := hD.sub (ws' := [oX5 a0 0 0 0 0 0 0 a_lot a_pieces a_mark a_byDistance, rI cI a_lot 48 (fun _ => 0), rI cI a_pieces 48 (fun _ => 0), rI cI a_mark 48 (fun _ => 0), rI cI a_byDistance 48 (fun _ => 0)]) [0, 1, 2, 3, 4] rfl rfl
  exact W.vret hx hb hr (fun t ht hW => ⟨⟨fun k => [a_lot, a_pieces, a_mark, a_byDistance].getD k 0, rfl, trivial, by show va_P D vwCl _ t.heap ∧ va_D A _; rw [ht]; exact ⟨hP9, hD9⟩⟩, hS.F ht⟩) hS.2.2 dX5_init_36
set_option maxHeartbeats 4000000 in
set_option maxRecDepth 100000 in
theorem k_X6_init (l : Launch) (hl0 : l.stackTraces = false) (D : va_G) (cI cJ cZ cS : ClassId) (B0 : Nat) (sz : Nat) (a0 : Nat) : Met l yX6_init (wz yX6_init cX6_init 1 none) ({ frames := 2, cells := 23, slots := 2522, locals := 60 }) (va_Pc [.ref a0] (wp D cI cJ cZ cS B0 [(a0, .inr (5, [.int 0, .int 0, .int 0, .null, .null, .null, .null, .null, .null]))] sz)) (va_Qv (fun (_ : Nat → Nat) => True) (fun q t => va_P D vwCl [oX6 a0 0 0 0 (q 0) (q 1) (q 2) (q 3) (q 8) (q 14), rI cI (q 0) 8 (fun _ => 0), rI cI (q 1) 6 (fun _ => 0), rI cI (q 2) 10 (fun _ => 0), oX5 (q 3) 0 0 0 0 0 0 (q 4) (q 5) (q 6) (q 7), rI cI (q 4) 48 (fun _ => 0), rI cI (q 5) 48 (fun _ => 0), rI cI (q 6) 48 (fun _ => 0), rI cI (q 7) 48 (fun _ => 0), oX1 (q 8) 0 (q 9) (q 10) (q 11) (q 12) (q 13), rI cI (q 9) 24 (fun _ => 0), rI cI (q 10) 24 (fun _ => 0), rI cI (q 11) 24 (fun _ => 0), rI cI (q 12) 24 (fun _ => 0), rI cI (q 13) 24 (fun _ => 0), oX2 (q 14) 0 0 (q 15) (q 16) (q 17) (q 18) (q 19) (q 20) (q 21) (q 22), rI cI (q 15) 40 (fun _ => 0), rI cI (q 16) 40 (fun _ => 0), rI cI (q 17) 40 (fun _ => 0), rI cI (q 18) 40 (fun _ => 0), rI cI (q 19) 40 (fun _ => 0), rI cI (q 20) 40 (fun _ => 0), rI cI (q 21) 960 (fun _ => 0), rI cI (q 22) 960 (fun _ => 0)] t.heap ∧ va_D (va_A [(a0, .inr (5, [.int 0, .int 0, .int 0, .null, .null, .null, .null, .null, .null]))] sz) [oX6 a0 0 0 0 (q 0) (q 1) (q 2) (q 3) (q 8) (q 14), rI cI (q 0) 8 (fun _ => 0), rI cI (q 1) 6 (fun _ => 0), rI cI (q 2) 10 (fun _ => 0), oX5 (q 3) 0 0 0 0 0 0 (q 4) (q 5) (q 6) (q 7), rI cI (q 4) 48 (fun _ => 0), rI cI (q 5) 48 (fun _ => 0), rI cI (q 6) 48 (fun _ => 0), rI cI (q 7) 48 (fun _ => 0), oX1 (q 8) 0 (q 9) (q 10) (q 11) (q 12) (q 13), rI cI (q 9) 24 (fun _ => 0), rI cI (q 10) 24 (fun _ => 0), rI cI (q 11) 24 (fun _ => 0), rI cI (q 12) 24 (fun _ => 0), rI cI (q 13) 24 (fun _ => 0), oX2 (q 14) 0 0 (q 15) (q 16) (q 17) (q 18) (q 19) (q 20) (q 21) (q 22), rI cI (q 15) 40 (fun _ => 0), rI cI (q 16) 40 (fun _ => 0), rI cI (q 17) 40 (fun _ => 0), rI cI (q 18) 40 (fun _ => 0), rI cI (q 19) 40 (fun _ => 0), rI cI (q 20) 40 (fun _ => 0), rI cI (q 21) 960 (fun _ => 0), rI cI (q 22) 960 (fun _ => 0)]) (va_A [(a0, .inr (5, [.int 0, .int 0, .int 0, .null, .null, .null, .null, .null, .null]))] sz)) 23 2522 (va_A [(a0, .inr (5, [.int 0, .int 0, .int 0, .null, .null, .null, .null, .null, .null]))] sz) := by
  refine Met.ofW (cc := cX6_init) (maxL := 1) (ret := none) (by decide) rfl ?_
  intro p e s m args below meth c s₁ B hml hv
  obtain ⟨rfl, hsz, hP, hK, hD0, hB0, hE⟩ := hv
  subst hsz
  have hx := B.exec
  have hb := B.bytes
  have hr := B.returns
  have hts := atoms_spec (ws := (wz yX6_init cX6_init 1 none)) B.pre
  have hown : s.vm.findClass RX6 = some m.cls := findClass_of_methodNamed B.named
  have hlocks := B.notSynchronized
  have hin : meth.name = "<init>" := (name_of_methodNamed B.named B.method).1
  have hD := hD0.self (sz := s.heap.size)
  have hAB : ∀ q : Nat, va_A [(a0, .inr (5, [.int 0, .int 0, .int 0, .null, .null, .null, .null, .null, .null]))] s.heap.size q → B0 ≤ q := va_A_B hD0 hB0
  generalize hAe : va_A [(a0, .inr (5, [.int 0, .int 0, .int 0, .null, .null, .null, .null, .null, .null]))] s.heap.size = A at hD hAB ⊢
  have hA : ∀ q : Nat, s.heap.size ≤ q → A q := fun q h => by rw [← hAe]; exact Or.inr h
  have hS : va_S A s.heap s.heap [] := va_S.rf
  have hBn := fun (H : Heap) (locs : List Loc) (h : va_S A s.heap H locs) => Nat.le_trans hB0 h.1
  have hEn := fun (H : Heap) (locs : List Loc) (h : va_S A s.heap H locs) => gE_now hE h hAB
  have hl := lv_entry ([.ref a0]) (n := 1) (Nat.le_of_ble_eq_true rfl)
  rw [lg_entry_eq]
  generalize (lg_sl ([.ref a0]) ++ List.replicate (1 - (lg_sl ([.ref a0])).length) Slot.unset).toArray = ls at hl ⊢
  have hl : lv_has ls 1 [(0, .ref a0)] := hl
  obtain ⟨H, hHe⟩ : ∃ H : Heap, H = s.heap := ⟨_, rfl⟩
  have hP : va_P D vwCl [(a0, .inr (5, [.int 0, .int 0, .int 0, .null, .null, .null, .null, .null, .null]))] H := by rw [hHe]; exact hP
  have hS : va_S A s.heap H [] := by rw [hHe]; exact hS
  refine W_heq hHe ?_
  refine lv_aload_n hx hb dX6_init_0 rfl (lv_at hl 0 rfl) ?_
  refine W.objInit hx hb hown (hts _ (mb tb_38)) (hts _ (mb tb_25)) (hts _ (mb tb_26)) rfl (by rw [hml]; exact hl.1) rfl dX6_init_1 (Nat.le_of_ble_eq_true rfl) (Nat.le_of_ble_eq_true rfl) ?_
  refine W.eq (g2 := F0 m 4 ls []) rfl ?_
  refine lv_aload_n hx hb dX6_init_4 rfl (lv_at hl 0 rfl) ?_
  refine lv_bipush (v := 8) hx hb dX6_init_5 (by decide) ?_
  refine va_newa (atype := .int) (ty := .int) (N' := 8) (a0 := (8, (.inl (fun _ => 0)))) hx hb (hts _ (mb tb_85)) rfl hK hP hD hS hA (fun _ => rfl) (by decide +kernel) (by decide +kernel) (Nat.le_of_ble_eq_true rfl) (Nat.le_of_ble_eq_true rfl) (Nat.le_of_ble_eq_true rfl) dX6_init_7 (fun a_items cN H hK1 hP hD hS => ?_)
  have hcN := (ty_one hK1 0 (by rfl) rfl).symm
  subst hcN
  have hP : va_P D vwCl [(a0, .inr (5, [.int 0, .int 0, .int 0, .null, .null, .null, .null, .null, .null])), rI cI a_items 8 (fun _ => 0)] H := hP
  have hD : va_D A [(a0, .inr (5, [.int 0, .int 0, .int 0, .null, .null, .null, .null, .null, .null])), rI cI a_items 8 (fun _ => 0)] := hD
  refine W.widen (k := 1) (n := 8) (Nat.le_of_ble_eq_true rfl) (Nat.le_of_ble_eq_true rfl) ?_
  refine va_putF (D := D) (ci := 5) (v := .ref a_items) (ty := .array .int) (C := RX6) (T := TX6) (N := 9) hx hb hts (fun w h => mb (iX6 w h)) tyX6 tyX6_ok nmX6 hown hK hP hD hS 0 rfl rfl 3 (by decide) (hts _ (mb tb_167)) (fun _ h9 => h9) rfl hin rfl (by decide +kernel) rfl rfl (Nat.le_of_ble_eq_true rfl) dX6_init_9 (fun H locs hP hD hS => ?_)
  have hP : va_P D vwCl [(a0, .inr (5, [.int 0, .int 0, .int 0, .ref a_items, .null, .null, .null, .null, .null])), rI cI a_items 8 (fun _ => 0)] H := hP
  have hD : va_D A [(a0, .inr (5, [.int 0, .int 0, .int 0, .ref a_items, .null, .null, .null, .null, .null])), rI cI a_items 8 (fun _ => 0)] := hD
  refine lv_aload_n hx hb dX6_init_12 rfl (lv_at hl 0 rfl) ?_
  refine lv_bipush (v := 6) hx hb dX6_init_13 (by decide) ?_
  refine va_newa (atype := .int) (ty := .int) (N' := 6) (a0 := (6, (.inl (fun _ => 0)))) hx hb (hts _ (mb tb_85)) rfl hK hP hD hS hA (fun _ => rfl) (by decide +kernel) (by decide +kernel) (Nat.le_of_ble_eq_true rfl) (Nat.le_of_ble_eq_true rfl) (Nat.le_of_ble_eq_true rfl) dX6_init_15 (fun a_books cN H hK1 hP hD hS => ?_)
  have hcN := (ty_one hK1 0 (by rfl) rfl).symm
  subst hcN
  have hP : va_P D vwCl [(a0, .inr (5, [.int 0, .int 0, .int 0, .ref a_items, .null, .null, .null, .null, .null])), rI cI a_items 8 (fun _ => 0), rI cI a_books 6 (fun _ => 0)] H := hP
  have hD : va_D A [(a0, .inr (5, [.int 0, .int 0, .int 0, .ref a_items, .null, .null, .null, .null, .null])), rI cI a_items 8 (fun _ => 0), rI cI a_books 6 (fun _ => 0)] := hD
  refine W.widen (k := 2) (n := 14) (Nat.le_of_ble_eq_true rfl) (Nat.le_of_ble_eq_true rfl) ?_
  refine va_putF (D := D) (ci := 5) (v := .ref a_books) (ty := .array .int) (C := RX6) (T := TX6) (N := 9) hx hb hts (fun w h => mb (iX6 w h)) tyX6 tyX6_ok nmX6 hown hK hP hD hS 0 rfl rfl 4 (by decide) (hts _ (mb tb_169)) (fun _ h9 => h9) rfl hin rfl (by decide +kernel) rfl rfl (Nat.le_of_ble_eq_true rfl) dX6_init_17 (fun H locs hP hD hS => ?_)
  have hP : va_P D vwCl [(a0, .inr (5, [.int 0, .int 0, .int 0, .ref a_items, .ref a_books, .null, .null, .null, .null])), rI cI a_items 8 (fun _ => 0), rI cI a_books 6 (fun _ => 0)] H := hP
  have hD : va_D A [(a0, .inr (5, [.int 0, .int 0, .int 0, .ref a_items, .ref a_books, .null, .null, .null, .null])), rI cI a_items 8 (fun _ => 0), rI cI a_books 6 (fun _ => 0)] := hD
  refine lv_aload_n hx hb dX6_init_20 rfl (lv_at hl 0 rfl) ?_
  refine lv_bipush (v := 10) hx hb dX6_init_21 (by decide) ?_
  refine va_newa (atype := .int) (ty := .int) (N' := 10) (a0 := (10, (.inl (fun _ => 0)))) hx hb (hts _ (mb tb_85)) rfl hK hP hD hS hA (fun _ => rfl) (by decide +kernel) (by decide +kernel) (Nat.le_of_ble_eq_true rfl) (Nat.le_of_ble_eq_true rfl) (Nat.le_of_ble_eq_true rfl) dX6_init_23 (fun a_terms cN H hK1 hP hD hS => ?_)
  have hcN := (ty_one hK1 0 (by rfl) rfl).symm
  subst hcN
  have hP : va_P D vwCl [(a0, .inr (5, [.int 0, .int 0, .int 0, .ref a_items, .ref a_books, .null, .null, .null, .null])), rI cI a_items 8 (fun _ => 0), rI cI a_books 6 (fun _ => 0), rI cI a_terms 10 (fun _ => 0)] H := hP
  have hD : va_D A [(a0, .inr (5, [.int 0, .int 0, .int 0, .ref a_items, .ref a_books, .null, .null, .null, .null])), rI cI a_items 8 (fun _ => 0), rI cI a_books 6 (fun _ => 0), rI cI a_terms 10 (fun _ => 0)] := hD
  refine W.widen (k := 3) (n := 24) (Nat.le_of_ble_eq_true rfl) (Nat.le_of_ble_eq_true rfl) ?_
  refine va_putF (D := D) (ci := 5) (v := .ref a_terms) (ty := .array .int) (C := RX6) (T := TX6) (N := 9) hx hb hts (fun w h => mb (iX6 w h)) tyX6 tyX6_ok nmX6 hown hK hP hD hS 0 rfl rfl 5 (by decide) (hts _ (mb tb_171)) (fun _ h9 => h9) rfl hin rfl (by decide +kernel) rfl rfl (Nat.le_of_ble_eq_true rfl) dX6_init_25 (fun H locs hP hD hS => ?_)
  have hP : va_P D vwCl [(a0, .inr (5, [.int 0, .int 0, .int 0, .ref a_items, .ref a_books, .ref a_terms, .null, .null, .null])), rI cI a_items 8 (fun _ => 0), rI cI a_books 6 (fun _ => 0), rI cI a_terms 10 (fun _ => 0)] H := hP
  have hD : va_D A [(a0, .inr (5, [.int 0, .int 0, .int 0, .ref a_items, .ref a_books, .ref a_terms, .null, .null, .null])), rI cI a_items 8 (fun _ => 0), rI cI a_books 6 (fun _ => 0), rI cI a_terms 10 (fun _ => 0)] := hD
  refine lv_aload_n hx hb dX6_init_28 rfl (lv_at hl 0 rfl) ?_
  refine va_new (ci := 4) (fs := [.int 0, .int 0, .int 0, .int 0, .int 0, .long 0, .null, .null, .null, .null]) (C := RX5) (T := TX5) (N := 10) hx hb hts (fun w h => mb (iX5 w h)) tyX5 tyX5_ok hown (hts _ (mb tb_39)) (hts _ (mb tb_40)) (hts _ (mb tb_3)) hK hP hD hS hA rfl (fun j hj => by rcases (show j = 0 ∨ j = 1 ∨ j = 2 ∨ j = 3 ∨ j = 4 ∨ j = 5 ∨ j = 6 ∨ j = 7 ∨ j = 8 ∨ j = 9 by omega) with rfl | rfl | rfl | rfl | rfl | rfl | rfl | rfl | rfl | rfl <;> rfl) (Nat.le_of_ble_eq_true rfl) (Nat.le_of_ble_eq_true rfl) dX6_init_29 (fun a_shelves H hP hD hS => ?_)
  have hP : va_P D vwCl [(a0, .inr (5, [.int 0, .int 0, .int 0, .ref a_items, .ref a_books, .ref a_terms, .null, .null, .null])), rI cI a_items 8 (fun _ => 0), rI cI a_books 6 (fun _ => 0), rI cI a_terms 10 (fun _ => 0), (a_shelves, .inr (4, [.int 0, .int 0, .int 0, .int 0, .int 0, .long 0, .null, .null, .null, .null]))] H := hP
  have hD : va_D A [(a0, .inr (5, [.int 0, .int 0, .int 0, .ref a_items, .ref a_books, .ref a_terms, .null, .null, .null])), rI cI a_items 8 (fun _ => 0), rI cI a_books 6 (fun _ => 0), rI cI a_terms 10 (fun _ => 0), (a_shelves, .inr (4, [.int 0, .int 0, .int 0, .int 0, .int 0, .long 0, .null, .null, .null, .null]))] := hD
  refine W.widen (k := 4) (n := 34) (Nat.le_of_ble_eq_true rfl) (Nat.le_of_ble_eq_true rfl) ?_
  refine lv_dup hx hb dX6_init_32 rfl ?_
  have hFc := va_free (wc := [(a_shelves, .inr (4, [.int 0, .int 0, .int 0, .int 0, .int 0, .long 0, .null, .null, .null, .null]))]) hD hS hA [4] rfl
  refine va_callv (va_runIN (As := []) (rest := [.ref a_shelves, .ref a0]) ⟨hx, hb, hml, hown, hts⟩ (k_X5_init l hl0 D cI cJ cZ cS B0 H.size a_shelves) ⟨va_cnB 0 hts (gI tb_43) rfl rfl rfl (hE.1.2.2.1 (Cond.methodLinkNest "LanesAndLots$State" 23 ⟨"LanesAndLots$Shelves", "<init>", "()V"⟩ "LanesAndLots") (by decide +kernel)) (hts _ (mb tb_3)) (by decide +kernel) ⟨(Nat.le_of_ble_eq_true rfl), (Nat.le_of_ble_eq_true rfl)⟩, rfl, (hts _ (mb tb_42))⟩ ⟨wp_blind, wp_pre (hP.sub [4] rfl) hK (va_D.sub (hD.weaken (fun _ _ _ h9 => hAB _ h9)) [4] rfl rfl) (hBn _ _ hS) (hEn _ _ hS)⟩ rfl rfl hl.1 rfl (lv_room (Nat.le_of_ble_eq_true rfl)) dX6_init_33 ⟨(Nat.le_of_ble_eq_true rfl), (Nat.le_of_ble_eq_true rfl)⟩) hS (fun q _ h => hFc q h) hFc (fun q33 t H1 locs ht hvm hw hB hz1 hk1 hS => ?_)
  obtain ⟨hP1, hD1⟩ := hB
  rw [ht] at hP1
  obtain ⟨hP, hD⟩ := va_join (wr := [(a0, .inr (5, [.int 0, .int 0, .int 0, .ref a_items, .ref a_books, .ref a_terms, .null, .null, .null])), rI cI a_items 8 (fun _ => 0), rI cI a_books 6 (fun _ => 0), rI cI a_terms 10 (fun _ => 0)]) (w1 := [oX5 a_shelves 0 0 0 0 0 0 (q33 0) (q33 1) (q33 2) (q33 3), rI cI (q33 0) 48 (fun _ => 0), rI cI (q33 1) 48 (fun _ => 0), rI cI (q33 2) 48 (fun _ => 0), rI cI (q33 3) 48 (fun _ => 0)]) hP hD [4] [0, 1, 2, 3] rfl rfl rfl (by decide) hk1 hFc hP1 hD1
  generalize H1 = H at hP hS ⊢
  obtain ⟨a_shelves_lot, e9⟩ : ∃ z : Nat, z = q33 0 := ⟨_, rfl⟩
  rw [← e9] at hP hD; clear e9
  obtain ⟨a_shelves_pieces, e9⟩ : ∃ z : Nat, z = q33 1 := ⟨_, rfl⟩
  rw [← e9] at hP hD; clear e9
  obtain ⟨a_shelves_mark, e9⟩ : ∃ z : Nat, z = q33 2 := ⟨_, rfl⟩
  rw [← e9] at hP hD; clear e9
  obtain ⟨a_shelves_byDistance, e9⟩ : ∃ z : Nat, z = q33 3 := ⟨_, rfl⟩
  rw [← e9] at hP hD; clear e9
  have hP : va_P D vwCl [(a0, .inr (5, [.int 0, .int 0, .int 0, .ref a_items, .ref a_books, .ref a_terms, .null, .null, .null])), rI cI a_items 8 (fun _ => 0), rI cI a_books 6 (fun _ => 0), rI cI a_terms 10 (fun _ => 0), oX5 a_shelves 0 0 0 0 0 0 a_shelves_lot a_shelves_pieces a_shelves_mark a_shelves_byDistance, rI cI a_shelves_lot 48 (fun _ => 0), rI cI a_shelves_pieces 48 (fun _ => 0), rI cI a_shelves_mark 48 (fun _ => 0), rI cI a_shelves_byDistance 48 (fun _ => 0)] H := hP
  have hD : va_D A [(a0, .inr (5, [.int 0, .int 0, .int 0, .ref a_items, .ref a_books, .ref a_terms, .null, .null, .null])), rI cI a_items 8 (fun _ => 0), rI cI a_books 6 (fun _ => 0), rI cI a_terms 10 (fun _ => 0), oX5 a_shelves 0 0 0 0 0 0 a_shelves_lot a_shelves_pieces a_shelves_mark a_shelves_byDistance, rI cI a_shelves_lot 48 (fun _ => 0), rI cI a_shelves_pieces 48 (fun _ => 0), rI cI a_shelves_mark 48 (fun _ => 0), rI cI a_shelves_byDistance 48 (fun _ => 0)] := hD
  refine W.widen (k := 8) (n := 226) (Nat.le_of_ble_eq_true rfl) (Nat.le_of_ble_eq_true rfl) ?_
  refine va_putF (D := D) (ci := 5) (v := .ref a_shelves) (ty := .object "LanesAndLots$Shelves") (C := RX6) (T := TX6) (N := 9) hx hb hts (fun w h => mb (iX6 w h)) tyX6 tyX6_ok nmX6 hown hK hP hD hS 0 rfl rfl 6 (by decide) (hts _ (mb tb_173)) (fun _ h9 => h9) rfl hin rfl (by decide +kernel) rfl rfl (Nat.le_of_ble_eq_true rfl) dX6_init_36 (fun H locs hP hD hS => ?_)
  have hP : va_P D vwCl [(a0, .inr (5, [.int 0, .int 0, .int 0, .ref a_items, .ref a_books, .ref a_terms, .ref a_shelves, .null, .null])), rI cI a_items 8 (fun _ => 0), rI cI a_books 6 (fun _ => 0), rI cI a_terms 10 (fun _ => 0), oX5 a_shelves 0 0 0 0 0 0 a_shelves_lot a_shelves_pieces a_shelves_mark a_shelves_byDistance, rI cI a_shelves_lot 48 (fun _ => 0), rI cI a_shelves_pieces 48 (fun _ => 0), rI cI a_shelves_mark 48 (fun _ => 0), rI cI a_shelves_byDistance 48 (fun _ => 0)] H := hP
  have hD : va_D A [(a0, .inr (5, [.int 0, .int 0, .int 0, .ref a_items, .ref a_books, .ref a_terms, .ref a_shelves, .null, .null])), rI cI a_items 8 (fun _ => 0), rI cI a_books 6 (fun _ => 0), rI cI a_terms 10 (fun _ => 0), oX5 a_shelves 0 0 0 0 0 0 a_shelves_lot a_shelves_pieces a_shelves_mark a_shelves_byDistance, rI cI a_shelves_lot 48 (fun _ => 0), rI cI a_shelves_pieces 48 (fun _ => 0), rI cI a_shelves_mark 48 (fun _ => 0), rI cI a_shelves_byDistance 48 (fun _ => 0)] := hD
  refine lv_aload_n hx hb dX6_init_39 rfl (lv_at hl 0 rfl) ?_
  refine va_new (ci := 0) (fs := [.int 0, .null, .null, .null, .null, .null]) (C := RX1) (T := TX1) (N := 6) hx hb hts (fun w h => mb (iX1 w h)) tyX1 tyX1_ok hown (hts _ (mb tb_86)) (hts _ (mb tb_87)) (hts _ (mb tb_4)) hK hP hD hS hA rfl (fun j hj => by rcases (show j = 0 ∨ j = 1 ∨ j = 2 ∨ j = 3 ∨ j = 4 ∨ j = 5 by omega) with rfl | rfl | rfl | rfl | rfl | rfl <;> rfl) (Nat.le_of_ble_eq_true rfl) (Nat.le_of_ble_eq_true rfl) dX6_init_40 (fun a_lots H hP hD hS => ?_)
  have hP : va_P D vwCl [(a0, .inr (5, [.int 0, .int 0, .int 0, .ref a_items, .ref a_books, .ref a_terms, .ref a_shelves, .null, .null])), rI cI a_items 8 (fun _ => 0), rI cI a_books 6 (fun _ => 0), rI cI a_terms 10 (fun _ => 0), oX5 a_shelves 0 0 0 0 0 0 a_shelves_lot a_shelves_pieces a_shelves_mark a_shelves_byDistance, rI cI a_shelves_lot 48 (fun _ => 0), rI cI a_shelves_pieces 48 (fun _ => 0), rI cI a_shelves_mark 48 (fun _ => 0), rI cI a_shelves_byDistance 48 (fun _ => 0), (a_lots, .inr (0, [.int 0, .null, .null, .null, .null, .null]))] H := hP
  have hD : va_D A [(a0, .inr (5, [.int 0, .int 0, .int 0, .ref a_items, .ref a_books, .ref a_terms, .ref a_shelves, .null, .null])), rI cI a_items 8 (fun _ => 0), rI cI a_books 6 (fun _ => 0), rI cI a_terms 10 (fun _ => 0), oX5 a_shelves 0 0 0 0 0 0 a_shelves_lot a_shelves_pieces a_shelves_mark a_shelves_byDistance, rI cI a_shelves_lot 48 (fun _ => 0), rI cI a_shelves_pieces 48 (fun _ => 0), rI cI a_shelves_mark 48 (fun _ => 0), rI cI a_shelves_byDistance 48 (fun _ => 0), (a_lots, .inr (0, [.int 0, .null, .null, .null, .null, .null]))] := hD
  refine W.widen (k := 9) (n := 232) (Nat.le_of_ble_eq_true rfl) (Nat.le_of_ble_eq_true rfl) ?_
  refine lv_dup hx hb dX6_init_43 rfl ?_
  have hFc := va_free (wc := [(a_lots, .inr (0, [.int 0, .null, .null, .null, .null, .null]))]) hD hS hA [9] rfl
  refine va_callv (va_runIN (As := []) (rest := [.ref a_lots, .ref a0]) ⟨hx, hb, hml, hown, hts⟩ (k_X1_init l hl0 D cI cJ cZ cS B0 H.size a_lots) ⟨va_cnB 0 hts (gI tb_90) rfl rfl rfl (hE.1.2.2.1 (Cond.methodLinkNest "LanesAndLots$State" 30 ⟨"LanesAndLots$Lots", "<init>", "()V"⟩ "LanesAndLots") (by decide +kernel)) (hts _ (mb tb_4)) (by decide +kernel) ⟨(Nat.le_of_ble_eq_true rfl), (Nat.le_of_ble_eq_true rfl)⟩, rfl, (hts _ (mb tb_89))⟩ ⟨wp_blind, wp_pre (hP.sub [9] rfl) hK (va_D.sub (hD.weaken (fun _ _ _ h9 => hAB _ h9)) [9] rfl rfl) (hBn _ _ hS) (hEn _ _ hS)⟩ rfl rfl hl.1 rfl (lv_room (Nat.le_of_ble_eq_true rfl)) dX6_init_44 ⟨(Nat.le_of_ble_eq_true rfl), (Nat.le_of_ble_eq_true rfl)⟩) hS (fun q _ h => hFc q h) hFc (fun q44 t H1 locs ht hvm hw hB hz1 hk1 hS => ?_)
  obtain ⟨hP1, hD1⟩ := hB
  rw [ht] at hP1
  obtain ⟨hP, hD⟩ := va_join (wr := [(a0, .inr (5, [.int 0, .int 0, .int 0, .ref a_items, .ref a_books, .ref a_terms, .ref a_shelves, .null, .null])), rI cI a_items 8 (fun _ => 0), rI cI a_books 6 (fun _ => 0), rI cI a_terms 10 (fun _ => 0), oX5 a_shelves 0 0 0 0 0 0 a_shelves_lot a_shelves_pieces a_shelves_mark a_shelves_byDistance, rI cI a_shelves_lot 48 (fun _ => 0), rI cI a_shelves_pieces 48 (fun _ => 0), rI cI a_shelves_mark 48 (fun _ => 0), rI cI a_shelves_byDistance 48 (fun _ => 0)]) (w1 := [oX1 a_lots 0 (q44 0) (q44 1) (q44 2) (q44 3) (q44 4), rI cI (q44 0) 24 (fun _ => 0), rI cI (q44 1) 24 (fun _ => 0), rI cI (q44 2) 24 (fun _ => 0), rI cI (q44 3) 24 (fun _ => 0), rI cI (q44 4) 24 (fun _ => 0)]) hP hD [9] [0, 1, 2, 3, 4, 5, 6, 7, 8] rfl rfl rfl (by decide) hk1 hFc hP1 hD1
  generalize H1 = H at hP hS ⊢
  obtain ⟨a_lots_product, e9⟩ : ∃ z : Nat, z = q44 0 := ⟨_, rfl⟩
  rw [← e9] at hP hD; clear e9
  obtain ⟨a_lots_last, e9⟩ : ∃ z : Nat, z = q44 1 := ⟨_, rfl⟩
  rw [← e9] at hP hD; clear e9
  obtain ⟨a_lots_cost, e9⟩ : ∃ z : Nat, z = q44 2 := ⟨_, rfl⟩
  rw [← e9] at hP hD; clear e9
  obtain ⟨a_lots_state, e9⟩ : ∃ z : Nat, z = q44 3 := ⟨_, rfl⟩
  rw [← e9] at hP hD; clear e9
  obtain ⟨a_lots_byLast, e9⟩ : ∃ z : Nat, z = q44 4 := ⟨_, rfl⟩
  rw [← e9] at hP hD; clear e9
  have hP : va_P D vwCl [(a0, .inr (5, [.int 0, .int 0, .int 0, .ref a_items, .ref a_books, .ref a_terms, .ref a_shelves, .null, .null])), rI cI a_items 8 (fun _ => 0), rI cI a_books 6 (fun _ => 0), rI cI a_terms 10 (fun _ => 0), oX5 a_shelves 0 0 0 0 0 0 a_shelves_lot a_shelves_pieces a_shelves_mark a_shelves_byDistance, rI cI a_shelves_lot 48 (fun _ => 0), rI cI a_shelves_pieces 48 (fun _ => 0), rI cI a_shelves_mark 48 (fun _ => 0), rI cI a_shelves_byDistance 48 (fun _ => 0), oX1 a_lots 0 a_lots_product a_lots_last a_lots_cost a_lots_state a_lots_byLast, rI cI a_lots_product 24 (fun _ => 0), rI cI a_lots_last 24 (fun _ => 0), rI cI a_lots_cost 24 (fun _ => 0), rI cI a_lots_state 24 (fun _ => 0), rI cI a_lots_byLast 24 (fun _ => 0)] H := hP
  have hD : va_D A [(a0, .inr (5, [.int 0, .int 0, .int 0, .ref a_items, .ref a_books, .ref a_terms, .ref a_shelves, .null, .null])), rI cI a_items 8 (fun _ => 0), rI cI a_books 6 (fun _ => 0), rI cI a_terms 10 (fun _ => 0), oX5 a_shelves 0 0 0 0 0 0 a_shelves_lot a_shelves_pieces a_shelves_mark a_shelves_byDistance, rI cI a_shelves_lot 48 (fun _ => 0), rI cI a_shelves_pieces 48 (fun _ => 0), rI cI a_shelves_mark 48 (fun _ => 0), rI cI a_shelves_byDistance 48 (fun _ => 0), oX1 a_lots 0 a_lots_product a_lots_last a_lots_cost a_lots_state a_lots_byLast, rI cI a_lots_product 24 (fun _ => 0), rI cI a_lots_last 24 (fun _ => 0), rI cI a_lots_cost 24 (fun _ => 0), rI cI a_lots_state 24 (fun _ => 0), rI cI a_lots_byLast 24 (fun _ => 0)] := hD
  refine W.widen (k := 14) (n := 352) (Nat.le_of_ble_eq_true rfl) (Nat.le_of_ble_eq_true rfl) ?_
  refine va_putF (D := D) (ci := 5) (v := .ref a_lots) (ty := .object "LanesAndLots$Lots") (C := RX6) (T := TX6) (N := 9) hx hb hts (fun w h => mb (iX6 w h)) tyX6 tyX6_ok nmX6 hown hK hP hD hS 0 rfl rfl 7 (by decide) (hts _ (mb tb_175)) (fun _ h9 => h9) rfl hin rfl (by decide +kernel) rfl rfl (Nat.le_of_ble_eq_true rfl) dX6_init_47 (fun H locs hP hD hS => ?_)
  have hP : va_P D vwCl [(a0, .inr (5, [.int 0, .int 0, .int 0, .ref a_items, .ref a_books, .ref a_terms, .ref a_shelves, .ref a_lots, .null])), rI cI a_items 8 (fun _ => 0), rI cI a_books 6 (fun _ => 0), rI cI a_terms 10 (fun _ => 0), oX5 a_shelves 0 0 0 0 0 0 a_shelves_lot a_shelves_pieces a_shelves_mark a_shelves_byDistance, rI cI a_shelves_lot 48 (fun _ => 0), rI cI a_shelves_pieces 48 (fun _ => 0), rI cI a_shelves_mark 48 (fun _ => 0), rI cI a_shelves_byDistance 48 (fun _ => 0), oX1 a_lots 0 a_lots_product a_lots_last a_lots_cost a_lots_state a_lots_byLast, rI cI a_lots_product 24 (fun _ => 0), rI cI a_lots_last 24 (fun _ => 0), rI cI a_lots_cost 24 (fun _ => 0), rI cI a_lots_state 24 (fun _ => 0), rI cI a_lots_byLast 24 (fun _ => 0)] H := hP
  have hD : va_D A [(a0, .inr (5, [.int 0, .int 0, .int 0, .ref a_items, .ref a_books, .ref a_terms, .ref a_shelves, .ref a_lots, .null])), rI cI a_items 8 (fun _ => 0), rI cI a_books 6 (fun _ => 0), rI cI a_terms 10 (fun _ => 0), oX5 a_shelves 0 0 0 0 0 0 a_shelves_lot a_shelves_pieces a_shelves_mark a_shelves_byDistance, rI cI a_shelves_lot 48 (fun _ => 0), rI cI a_shelves_pieces 48 (fun _ => 0), rI cI a_shelves_mark 48 (fun _ => 0), rI cI a_shelves_byDistance 48 (fun _ => 0), oX1 a_lots 0 a_lots_product a_lots_last a_lots_cost a_lots_state a_lots_byLast, rI cI a_lots_product 24 (fun _ => 0), rI cI a_lots_last 24 (fun _ => 0), rI cI a_lots_cost 24 (fun _ => 0), rI cI a_lots_state 24 (fun _ => 0), rI cI a_lots_byLast 24 (fun _ => 0)] := hD
  refine lv_aload_n hx hb dX6_init_50 rfl (lv_at hl 0 rfl) ?_
  refine va_new (ci := 1) (fs := [.int 0, .int 0, .null, .null, .null, .null, .null, .null, .null, .null]) (C := RX2) (T := TX2) (N := 10) hx hb hts (fun w h => mb (iX2 w h)) tyX2 tyX2_ok hown (hts _ (mb tb_118)) (hts _ (mb tb_119)) (hts _ (mb tb_5)) hK hP hD hS hA rfl (fun j hj => by rcases (show j = 0 ∨ j = 1 ∨ j = 2 ∨ j = 3 ∨ j = 4 ∨ j = 5 ∨ j = 6 ∨ j = 7 ∨ j = 8 ∨ j = 9 by omega) with rfl | rfl | rfl | rfl | rfl | rfl | rfl | rfl | rfl | rfl <;> rfl) (Nat.le_of_ble_eq_true rfl) (Nat.le_of_ble_eq_true rfl) dX6_init_51 (fun a_orders H hP hD hS => ?_)
  have hP : va_P D vwCl [(a0, .inr (5, [.int 0, .int 0, .int 0, .ref a_items, .ref a_books, .ref a_terms, .ref a_shelves, .ref a_lots, .null])), rI cI a_items 8 (fun _ => 0), rI cI a_books 6 (fun _ => 0), rI cI a_terms 10 (fun _ => 0), oX5 a_shelves 0 0 0 0 0 0 a_shelves_lot a_shelves_pieces a_shelves_mark a_shelves_byDistance, rI cI a_shelves_lot 48 (fun _ => 0), rI cI a_shelves_pieces 48 (fun _ => 0), rI cI a_shelves_mark 48 (fun _ => 0), rI cI a_shelves_byDistance 48 (fun _ => 0), oX1 a_lots 0 a_lots_product a_lots_last a_lots_cost a_lots_state a_lots_byLast, rI cI a_lots_product 24 (fun _ => 0), rI cI a_lots_last 24 (fun _ => 0), rI cI a_lots_cost 24 (fun _ => 0), rI cI a_lots_state 24 (fun _ => 0), rI cI a_lots_byLast 24 (fun _ => 0), (a_orders, .inr (1, [.int 0, .int 0, .null, .null, .null, .null, .null, .null, .null, .null]))] H := hP
  have hD : va_D A [(a0, .inr (5, [.int 0, .int 0, .int 0, .ref a_items, .ref a_books, .ref a_terms, .ref a_shelves, .ref a_lots, .null])), rI cI a_items 8 (fun _ => 0), rI cI a_books 6 (fun _ => 0), rI cI a_terms 10 (fun _ => 0), oX5 a_shelves 0 0 0 0 0 0 a_shelves_lot a_shelves_pieces a_shelves_mark a_shelves_byDistance, rI cI a_shelves_lot 48 (fun _ => 0), rI cI a_shelves_pieces 48 (fun _ => 0), rI cI a_shelves_mark 48 (fun _ => 0), rI cI a_shelves_byDistance 48 (fun _ => 0), oX1 a_lots 0 a_lots_product a_lots_last a_lots_cost a_lots_state a_lots_byLast, rI cI a_lots_product 24 (fun _ => 0), rI cI a_lots_last 24 (fun _ => 0), rI cI a_lots_cost 24 (fun _ => 0), rI cI a_lots_state 24 (fun _ => 0), rI cI a_lots_byLast 24 (fun _ => 0), (a_orders, .inr (1, [.int 0, .int 0, .null, .null, .null, .null, .null, .null, .null, .null]))] := hD
  refine W.widen (k := 15) (n := 362) (Nat.le_of_ble_eq_true rfl) (Nat.le_of_ble_eq_true rfl) ?_
  refine lv_dup hx hb dX6_init_54 rfl ?_
  have hFc := va_free (wc := [(a_orders, .inr (1, [.int 0, .int 0, .null, .null, .null, .null, .null, .null, .null, .null]))]) hD hS hA [15] rfl
  refine va_callv (va_runIN (As := []) (rest := [.ref a_orders, .ref a0]) ⟨hx, hb, hml, hown, hts⟩ (k_X2_init l hl0 D cI cJ cZ cS B0 H.size a_orders) ⟨va_cnB 0 hts (gI tb_122) rfl rfl rfl (hE.1.2.2.1 (Cond.methodLinkNest "LanesAndLots$State" 37 ⟨"LanesAndLots$Orders", "<init>", "()V"⟩ "LanesAndLots") (by decide +kernel)) (hts _ (mb tb_5)) (by decide +kernel) ⟨(Nat.le_of_ble_eq_true rfl), (Nat.le_of_ble_eq_true rfl)⟩, rfl, (hts _ (mb tb_121))⟩ ⟨wp_blind, wp_pre (hP.sub [15] rfl) hK (va_D.sub (hD.weaken (fun _ _ _ h9 => hAB _ h9)) [15] rfl rfl) (hBn _ _ hS) (hEn _ _ hS)⟩ rfl rfl hl.1 rfl (lv_room (Nat.le_of_ble_eq_true rfl)) dX6_init_55 ⟨(Nat.le_of_ble_eq_true rfl), (Nat.le_of_ble_eq_true rfl)⟩) hS (fun q _ h => hFc q h) hFc (fun q55 t H1 locs ht hvm hw hB hz1 hk1 hS => ?_)
  obtain ⟨hP1, hD1⟩ := hB
  rw [ht] at hP1
  obtain ⟨hP, hD⟩ := va_join (wr := [(a0, .inr (5, [.int 0, .int 0, .int 0, .ref a_items, .ref a_books, .ref a_terms, .ref a_shelves, .ref a_lots, .null])), rI cI a_items 8 (fun _ => 0), rI cI a_books 6 (fun _ => 0), rI cI a_terms 10 (fun _ => 0), oX5 a_shelves 0 0 0 0 0 0 a_shelves_lot a_shelves_pieces a_shelves_mark a_shelves_byDistance, rI cI a_shelves_lot 48 (fun _ => 0), rI cI a_shelves_pieces 48 (fun _ => 0), rI cI a_shelves_mark 48 (fun _ => 0), rI cI a_shelves_byDistance 48 (fun _ => 0), oX1 a_lots 0 a_lots_product a_lots_last a_lots_cost a_lots_state a_lots_byLast, rI cI a_lots_product 24 (fun _ => 0), rI cI a_lots_last 24 (fun _ => 0), rI cI a_lots_cost 24 (fun _ => 0), rI cI a_lots_state 24 (fun _ => 0), rI cI a_lots_byLast 24 (fun _ => 0)]) (w1 := [oX2 a_orders 0 0 (q55 0) (q55 1) (q55 2) (q55 3) (q55 4) (q55 5) (q55 6) (q55 7), rI cI (q55 0) 40 (fun _ => 0), rI cI (q55 1) 40 (fun _ => 0), rI cI (q55 2) 40 (fun _ => 0), rI cI (q55 3) 40 (fun _ => 0), rI cI (q55 4) 40 (fun _ => 0), rI cI (q55 5) 40 (fun _ => 0), rI cI (q55 6) 960 (fun _ => 0), rI cI (q55 7) 960 (fun _ => 0)]) hP hD [15] [0, 1, 2, 3, 4, 5, 6, 7, 8, 9, 10, 11, 12, 13, 14] rfl rfl rfl (by decide) hk1 hFc hP1 hD1
  generalize H1 = H at hP hS ⊢
  obtain ⟨a_orders_customer, e9⟩ : ∃ z : Nat, z = q55 0 := ⟨_, rfl⟩
  rw [← e9] at hP hD; clear e9
  obtain ⟨a_orders_product, e9⟩ : ∃ z : Nat, z = q55 1 := ⟨_, rfl⟩
  rw [← e9] at hP hD; clear e9
  obtain ⟨a_orders_open, e9⟩ : ∃ z : Nat, z = q55 2 := ⟨_, rfl⟩
  rw [← e9] at hP hD; clear e9
  obtain ⟨a_orders_due, e9⟩ : ∃ z : Nat, z = q55 3 := ⟨_, rfl⟩
  rw [← e9] at hP hD; clear e9
  obtain ⟨a_orders_life, e9⟩ : ∃ z : Nat, z = q55 4 := ⟨_, rfl⟩
  rw [← e9] at hP hD; clear e9
  obtain ⟨a_orders_byDue, e9⟩ : ∃ z : Nat, z = q55 5 := ⟨_, rfl⟩
  rw [← e9] at hP hD; clear e9
  obtain ⟨a_orders_had, e9⟩ : ∃ z : Nat, z = q55 6 := ⟨_, rfl⟩
  rw [← e9] at hP hD; clear e9
  obtain ⟨a_orders_stamps, e9⟩ : ∃ z : Nat, z = q55 7 := ⟨_, rfl⟩
  rw [← e9] at hP hD; clear e9
  have hP : va_P D vwCl [(a0, .inr (5, [.int 0, .int 0, .int 0, .ref a_items, .ref a_books, .ref a_terms, .ref a_shelves, .ref a_lots, .null])), rI cI a_items 8 (fun _ => 0), rI cI a_books 6 (fun _ => 0), rI cI a_terms 10 (fun _ => 0), oX5 a_shelves 0 0 0 0 0 0 a_shelves_lot a_shelves_pieces a_shelves_mark a_shelves_byDistance, rI cI a_shelves_lot 48 (fun _ => 0), rI cI a_shelves_pieces 48 (fun _ => 0), rI cI a_shelves_mark 48 (fun _ => 0), rI cI a_shelves_byDistance 48 (fun _ => 0), oX1 a_lots 0 a_lots_product a_lots_last a_lots_cost a_lots_state a_lots_byLast, rI cI a_lots_product 24 (fun _ => 0), rI cI a_lots_last 24 (fun _ => 0), rI cI a_lots_cost 24 (fun _ => 0), rI cI a_lots_state 24 (fun _ => 0), rI cI a_lots_byLast 24 (fun _ => 0), oX2 a_orders 0 0 a_orders_customer a_orders_product a_orders_open a_orders_due a_orders_life a_orders_byDue a_orders_had a_orders_stamps, rI cI a_orders_customer 40 (fun _ => 0), rI cI a_orders_product 40 (fun _ => 0), rI cI a_orders_open 40 (fun _ => 0), rI cI a_orders_due 40 (fun _ => 0), rI cI a_orders_life 40 (fun _ => 0), rI cI a_orders_byDue 40 (fun _ => 0), rI cI a_orders_had 960 (fun _ => 0), rI cI a_orders_stamps 960 (fun _ => 0)] H := hP
  have hD : va_D A [(a0, .inr (5, [.int 0, .int 0, .int 0, .ref a_items, .ref a_books, .ref a_terms, .ref a_shelves, .ref a_lots, .null])), rI cI a_items 8 (fun _ => 0), rI cI a_books 6 (fun _ => 0), rI cI a_terms 10 (fun _ => 0), oX5 a_shelves 0 0 0 0 0 0 a_shelves_lot a_shelves_pieces a_shelves_mark a_shelves_byDistance, rI cI a_shelves_lot 48 (fun _ => 0), rI cI a_shelves_pieces 48 (fun _ => 0), rI cI a_shelves_mark 48 (fun _ => 0), rI cI a_shelves_byDistance 48 (fun _ => 0), oX1 a_lots 0 a_lots_product a_lots_last a_lots_cost a_lots_state a_lots_byLast, rI cI a_lots_product 24 (fun _ => 0), rI cI a_lots_last 24 (fun _ => 0), rI cI a_lots_cost 24 (fun _ => 0), rI cI a_lots_state 24 (fun _ => 0), rI cI a_lots_byLast 24 (fun _ => 0), oX2 a_orders 0 0 a_orders_customer a_orders_product a_orders_open a_orders_due a_orders_life a_orders_byDue a_orders_had a_orders_stamps, rI cI a_orders_customer 40 (fun _ => 0), rI cI a_orders_product 40 (fun _ => 0), rI cI a_orders_open 40 (fun _ => 0), rI cI a_orders_due 40 (fun _ => 0), rI cI a_orders_life 40 (fun _ => 0), rI cI a_orders_byDue 40 (fun _ => 0), rI cI a_orders_had 960 (fun _ => 0), rI cI a_orders_stamps 960 (fun _ => 0)] := hD
  refine W.widen (k := 23) (n := 2522) (Nat.le_of_ble_eq_true rfl) (Nat.le_of_ble_eq_true rfl) ?_
  refine va_putF (D := D) (ci := 5) (v := .ref a_orders) (ty := .object "LanesAndLots$Orders") (C := RX6) (T := TX6) (N := 9) hx hb hts (fun w h => mb (iX6 w h)) tyX6 tyX6_ok nmX6 hown hK hP hD hS 0 rfl rfl 8 (by decide) (hts _ (mb tb_177)) (fun _ h9 => h9) rfl hin rfl (by decide +kernel) rfl rfl (Nat.le_of_ble_eq_true rfl) dX6_init_58 (fun H locs hP hD hS => ?_)
  have hP : va_P D vwCl [(a0, .inr (5, [.int 0, .int 0, .int 0, .ref a_items, .ref a_books, .ref a_terms, .ref a_shelves, .ref a_lots, .ref a_orders])), rI cI a_items 8 (fun _ => 0), rI cI a_books 6 (fun _ => 0), rI cI a_terms 10 (fun _ => 0), oX5 a_shelves 0 0 0 0 0 0 a_shelves_lot a_shelves_pieces a_shelves_mark a_shelves_byDistance, rI cI a_shelves_lot 48 (fun _ => 0), rI cI a_shelves_pieces 48 (fun _ => 0), rI cI a_shelves_mark 48 (fun _ => 0), rI cI a_shelves_byDistance 48 (fun _ => 0), oX1 a_lots 0 a_lots_product a_lots_last a_lots_cost a_lots_state a_lots_byLast, rI cI a_lots_product 24 (fun _ => 0), rI cI a_lots_last 24 (fun _ => 0), rI cI a_lots_cost 24 (fun _ => 0), rI cI a_lots_state 24 (fun _ => 0), rI cI a_lots_byLast 24 (fun _ => 0), oX2 a_orders 0 0 a_orders_customer a_orders_product a_orders_open a_orders_due a_orders_life a_orders_byDue a_orders_had a_orders_stamps, rI cI a_orders_customer 40 (fun _ => 0), rI cI a_orders_product 40 (fun _ => 0), rI cI a_orders_open 40 (fun _ => 0), rI cI a_orders_due 40 (fun _ => 0), rI cI a_orders_life 40 (fun _ => 0), rI cI a_orders_byDue 40 (fun _ => 0), rI cI a_orders_had 960 (fun _ => 0), rI cI a_orders_stamps 960 (fun _ => 0)] H := hP
  have hD : va_D A [(a0, .inr (5, [.int 0, .int 0, .int 0, .ref a_items, .ref a_books, .ref a_terms, .ref a_shelves, .ref a_lots, .ref a_orders])), rI cI a_items 8 (fun _ => 0), rI cI a_books 6 (fun _ => 0), rI cI a_terms 10 (fun _ => 0), oX5 a_shelves 0 0 0 0 0 0 a_shelves_lot a_shelves_pieces a_shelves_mark a_shelves_byDistance, rI cI a_shelves_lot 48 (fun _ => 0), rI cI a_shelves_pieces 48 (fun _ => 0), rI cI a_shelves_mark 48 (fun _ => 0), rI cI a_shelves_byDistance 48 (fun _ => 0), oX1 a_lots 0 a_lots_product a_lots_last a_lots_cost a_lots_state a_lots_byLast, rI cI a_lots_product 24 (fun _ => 0), rI cI a_lots_last 24 (fun _ => 0), rI cI a_lots_cost 24 (fun _ => 0), rI cI a_lots_state 24 (fun _ => 0), rI cI a_lots_byLast 24 (fun _ => 0), oX2 a_orders 0 0 a_orders_customer a_orders_product a_orders_open a_orders_due a_orders_life a_orders_byDue a_orders_had a_orders_stamps, rI cI a_orders_customer 40 (fun _ => 0), rI cI a_orders_product 40 (fun _ => 0), rI cI a_orders_open 40 (fun _ => 0), rI cI a_orders_due 40 (fun _ => 0), rI cI a_orders_life 40 (fun _ => 0), rI cI a_orders_byDue 40 (fun _ => 0), rI cI a_orders_had 960 (fun _ => 0), rI cI a_orders_stamps 960 (fun _ => 0)] := hD
  have hP9 := hP.sub (ws' := [oX6 a0 0 0 0 a_items a_books a_terms a_shelves a_lots a_orders, rI cI a_items 8 (fun _ => 0), rI cI a_books 6 (fun _ => 0), rI cI a_terms 10 (fun _ => 0), oX5 a_shelves 0 0 0 0 0 0 a_shelves_lot a_shelves_pieces a_shelves_mark a_shelves_byDistance, rI cI a_shelves_lot 48 (fun _ => 0), rI cI a_shelves_pieces 48 (fun _ => 0), rI cI a_shelves_mark 48 (fun _ => 0), rI cI a_shelves_byDistance 48 (fun _ => 0), oX1 a_lots 0 a_lots_product a_lots_last a_lots_cost a_lots_state a_lots_byLast, rI cI a_lots_product 24 (fun _ => 0), rI cI a_lots_last 24 (fun _ => 0), rI cI a_lots_cost 24 (fun _ => 0), rI cI a_lots_state 24 (fun _ => 0), rI cI a_lots_byLast 24 (fun _ => 0), oX2 a_orders 0 0 a_orders_customer a_orders_product a_orders_open a_orders_due a_orders_life a_orders_byDue a_orders_had a_orders_stamps, rI cI a_orders_customer 40 (fun _ => 0), rI cI a_orders_product 40 (fun _ => 0), rI cI a_orders_open 40 (fun _ => 0), rI cI a_orders_due 40 (fun _ => 0), rI cI a_orders_life 40 (fun _ => 0), rI cI a_orders_byDue 40 (fun _ => 0), rI cI a_orders_had 960 (fun _ => 0), rI cI a_orders_stamps 960 (fun _ => 0)]) [0, 1, 2, 3, 4, 5, 6, 7, 8, 9, 10, 11, 12, 13, 14, 15, 16, 17, 18, 19, 20, 21, 22, 23] rfl
  have hD9 := hD.sub (ws' := [oX6 a0 0 0 0 a_items a_books a_terms a_shelves a_lots a_orders, rI cI a_items 8 (fun _ => 0), rI cI a_books 6 (fun _ => 0), rI cI a_terms 10 (fun _ => 0), oX5 a_shelves 0 0 0 0 0 0 a_shelves_lot a_shelves_pieces a_shelves_mark a_shelves_byDistance, rI cI a_shelves_lot 48 (fun _ => 0), rI cI a_shelves_pieces 48 (fun _ => 0), rI cI a_shelves_mark 48 (fun _ => 0), rI cI a_shelves_byDistance 48 (fun _ => 0), oX1 a_lots 0 a_lots_product a_lots_last a_lots_cost a_lots_state a_lots_byLast, rI cI a_lots_product 24 (fun _ => 0), rI cI a_lots_last 24 (fun _ => 0), rI cI a_lots_cost 24 (fun _ => 0), rI cI a_lots_state 24 (fun _ => 0), rI cI a_lots_byLast 24 (fun _ => 0), oX2 a_orders 0 0 a_orders_customer a_orders_product a_orders_open a_orders_due a_orders_life a_orders_byDue a_orders_had a_orders_stamps, rI cI a_orders_customer 40 (fun _ => 0), rI cI a_orders_product 40 (fun _ => 0), rI cI a_orders_open 40 (fun _ => 0), rI cI a_orders_due 40 (fun _ => 0), rI cI a_orders_life 40 (fun _ => 0), rI cI a_orders_byDue 40 (fun _ => 0), rI cI a_orders_had 960 (fun _ => 0), rI cI a_orders_stamps 960 (fun _ => 0)]) [0, 1, 2, 3, 4, 5, 6, 7, 8, 9, 10, 11, 12, 13, 14, 15, 16, 17, 18, 19, 20, 21, 22, 23] rfl rfl
  exact W.vret hx hb hr (fun t ht hW => ⟨⟨fun k => [a_items, a_books, a_terms, a_shelves, a_shelves_lot, a_shelves_pieces, a_shelves_mark, a_shelves_byDistance, a_lots, a_lots_product, a_lots_last, a_lots_cost, a_lots_state, a_lots_byLast, a_orders, a_orders_customer, a_orders_product, a_orders_open, a_orders_due, a_orders_life, a_orders_byDue, a_orders_had, a_orders_stamps].getD k 0, rfl, trivial, by show va_P D vwCl _ t.heap ∧ va_D A _; rw [ht]; exact ⟨hP9, hD9⟩⟩, hS.F ht⟩) hS.2.2 dX6_init_61
