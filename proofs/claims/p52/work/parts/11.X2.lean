def f_X2_clear (c_count : Int32) (c_gifts : Int32) : Option (Int32 × Int32) :=
  some (0, 0)
set_option maxHeartbeats 4000000 in
set_option maxRecDepth 100000 in
theorem k_X2_clear (l : Launch) (hl0 : l.stackTraces = false) (D : va_G) (cI cJ cZ cS : ClassId) (B0 : Nat) (sz : Nat) (a0 a_customer a_product a_open a_due a_life a_byDue a_had a_stamps : Nat) (c_count : Int32) (c_gifts : Int32) (oc_count : Int32) (oc_gifts : Int32)  (hf : f_X2_clear c_count c_gifts = some (oc_count, oc_gifts)) : Met l yX2_clear (wz yX2_clear cX2_clear 1 none) ({ frames := 0, cells := 0, slots := 0, locals := 0 }) (va_Pc [.ref a0] (wp D cI cJ cZ cS B0 [oX2 a0 c_count c_gifts a_customer a_product a_open a_due a_life a_byDue a_had a_stamps] sz)) (va_Qv (fun (_ : Unit) => True) (fun _ t => va_P D vwCl [oX2 a0 oc_count oc_gifts a_customer a_product a_open a_due a_life a_byDue a_had a_stamps] t.heap) (va_A [oX2 a0 c_count c_gifts a_customer a_product a_open a_due a_life a_byDue a_had a_stamps] sz)) 0 0 (va_A [oX2 a0 c_count c_gifts a_customer a_product a_open a_due a_life a_byDue a_had a_stamps] sz) := by
  refine Met.ofW (cc := cX2_clear) (maxL := 1) (ret := none) (by decide) rfl ?_
  intro p e s m args below meth c s₁ B hml hv
  obtain ⟨rfl, hsz, hP, hK, hD0, hB0, hE⟩ := hv
  subst hsz
  have hx := B.exec
  have hb := B.bytes
  have hr := B.returns
  have hts := atoms_spec (ws := (wz yX2_clear cX2_clear 1 none)) B.pre
  have hown : s.vm.findClass RX2 = some m.cls := findClass_of_methodNamed B.named
  have hlocks := B.notSynchronized
  have hD := hD0.self (sz := s.heap.size)
  have hAB : ∀ q : Nat, va_A [oX2 a0 c_count c_gifts a_customer a_product a_open a_due a_life a_byDue a_had a_stamps] s.heap.size q → B0 ≤ q := va_A_B hD0 hB0
  generalize hAe : va_A [oX2 a0 c_count c_gifts a_customer a_product a_open a_due a_life a_byDue a_had a_stamps] s.heap.size = A at hD hAB ⊢
  have hA : ∀ q : Nat, s.heap.size ≤ q → A q := fun q h => by rw [← hAe]; exact Or.inr h
  have hFa := hA
  have hS : va_S A s.heap s.heap [] := va_S.rf
  have hBn := fun (H : Heap) (locs : List Loc) (h : va_S A s.heap H locs) => Nat.le_trans hB0 h.1
  have hEn := fun (H : Heap) (locs : List Loc) (h : va_S A s.heap H locs) => gE_now hE h hAB
  have hl := lv_entry ([.ref a0]) (n := 1) (Nat.le_of_ble_eq_true rfl)
  rw [lg_entry_eq]
  generalize (lg_sl ([.ref a0]) ++ List.replicate (1 - (lg_sl ([.ref a0])).length) Slot.unset).toArray = ls at hl ⊢
  have hl : lv_has ls 1 [(0, .ref a0)] := hl
  obtain ⟨H, hHe⟩ : ∃ H : Heap, H = s.heap := ⟨_, rfl⟩
  have hP : va_P D vwCl [oX2 a0 c_count c_gifts a_customer a_product a_open a_due a_life a_byDue a_had a_stamps] H := by rw [hHe]; exact hP
  have hS : va_S A s.heap H [] := by rw [hHe]; exact hS
  refine W_heq hHe ?_
  unfold f_X2_clear at hf
  refine lv_aload_n hx hb dX2_clear_0 rfl (lv_at hl 0 rfl) ?_
  refine lv_iconst (v := 0) hx hb dX2_clear_1 (by decide) ?_
  refine va_put (D := D) (ci := 1) (v := .int 0) (ty := .int) (C := RX2) (T := TX2) (N := 10) hx hb hts (fun w h => mb (iX2 w h)) tyX2 tyX2_ok nmX2 hown hK hP hD hS 0 rfl rfl 0 (by decide) (hts _ (mb tb_124)) (fun _ h9 => h9) rfl (by decide +kernel) rfl rfl (Nat.le_of_ble_eq_true rfl) dX2_clear_2 (fun H locs hP hD hS => ?_)
  have hP : va_P D vwCl [oX2 a0 0 c_gifts a_customer a_product a_open a_due a_life a_byDue a_had a_stamps] H := hP
  have hD : va_D A [oX2 a0 0 c_gifts a_customer a_product a_open a_due a_life a_byDue a_had a_stamps] := hD
  refine lv_aload_n hx hb dX2_clear_5 rfl (lv_at hl 0 rfl) ?_
  refine lv_iconst (v := 0) hx hb dX2_clear_6 (by decide) ?_
  refine va_put (D := D) (ci := 1) (v := .int 0) (ty := .int) (C := RX2) (T := TX2) (N := 10) hx hb hts (fun w h => mb (iX2 w h)) tyX2 tyX2_ok nmX2 hown hK hP hD hS 0 rfl rfl 1 (by decide) (hts _ (mb tb_126)) (fun _ h9 => h9) rfl (by decide +kernel) rfl rfl (Nat.le_of_ble_eq_true rfl) dX2_clear_7 (fun H locs hP hD hS => ?_)
  have hP : va_P D vwCl [oX2 a0 0 0 a_customer a_product a_open a_due a_life a_byDue a_had a_stamps] H := hP
  have hD : va_D A [oX2 a0 0 0 a_customer a_product a_open a_due a_life a_byDue a_had a_stamps] := hD
  cases hf
  refine W.widen (k := 0) (n := 0) (Nat.le_of_ble_eq_true rfl) (Nat.le_of_ble_eq_true rfl) ?_
  exact W.vret hx hb hr (fun t ht hW => ⟨⟨(), rfl, trivial, (by show va_P D vwCl _ t.heap; rw [ht]; exact hP)⟩, hS.F ht⟩) hS.2.2 dX2_clear_10
def f_X2_exists (v1 : Int32) (c_count : Int32) : Option (Int32) :=
  (if v1 < 0 then some 0
  else (if c_count ≤ v1 then some 0
  else (if 40 ≤ v1 then some 0
  else some 1)))
set_option maxHeartbeats 4000000 in
set_option maxRecDepth 100000 in
theorem k_X2_exists (l : Launch) (hl0 : l.stackTraces = false) (D : va_G) (cI cJ cZ cS : ClassId) (B0 : Nat) (H0 : Heap) (a0 a_customer a_product a_open a_due a_life a_byDue a_had a_stamps : Nat) (c_count : Int32) (c_gifts : Int32) (v1 : Int32) (r9 : Int32)  (hf : f_X2_exists v1 c_count = some r9) : Met l yX2_exists (wz yX2_exists cX2_exists 2 (some .boolean)) ({ frames := 0, cells := 0, slots := 0, locals := 0 }) (va_Pc [.ref a0, .int v1] (rp D cI cJ cZ cS B0 [oX2 a0 c_count c_gifts a_customer a_product a_open a_due a_life a_byDue a_had a_stamps] H0)) (va_Qi (fun (r2 : Int32) (_ : Unit) => r2 = r9) (fun _ t => t.heap = H0) (fun q => H0.size ≤ q)) 0 0 (fun q => H0.size ≤ q) := by
  refine Met.ofW (cc := cX2_exists) (maxL := 2) (ret := (some .boolean)) (by decide) rfl ?_
  intro p e s m args below meth c s₁ B hml hv
  obtain ⟨rfl, hH, hP, hK, hB0, hE⟩ := hv
  subst hH
  have hx := B.exec
  have hb := B.bytes
  have hr := B.returns
  have hts := atoms_spec (ws := (wz yX2_exists cX2_exists 2 (some .boolean))) B.pre
  have hown : s.vm.findClass RX2 = some m.cls := findClass_of_methodNamed B.named
  have hlocks := B.notSynchronized
  have hAB : ∀ q : Nat, s.heap.size ≤ q → B0 ≤ q := fun q h => Nat.le_trans hB0 h
  have hA : ∀ q : Nat, s.heap.size ≤ q → s.heap.size ≤ q := fun _ h => h
  have hS : va_S (fun q => s.heap.size ≤ q) s.heap s.heap [] := va_S.rf
  have hBn := fun (H : Heap) (locs : List Loc) (h : va_S (fun q => s.heap.size ≤ q) s.heap H locs) => Nat.le_trans hB0 h.1
  have hEn := fun (H : Heap) (locs : List Loc) (h : va_S (fun q => s.heap.size ≤ q) s.heap H locs) => gE_now hE h hAB
  have hl := lv_entry ([.ref a0, .int v1]) (n := 2) (Nat.le_of_ble_eq_true rfl)
  rw [lg_entry_eq]
  generalize (lg_sl ([.ref a0, .int v1]) ++ List.replicate (2 - (lg_sl ([.ref a0, .int v1])).length) Slot.unset).toArray = ls at hl ⊢
  have hl : lv_has ls 2 [(0, .ref a0), (1, .int v1)] := hl
  obtain ⟨H, hHe⟩ : ∃ H : Heap, H = s.heap := ⟨_, rfl⟩
  have hP : va_P D vwCl [oX2 a0 c_count c_gifts a_customer a_product a_open a_due a_life a_byDue a_had a_stamps] H := by rw [hHe]; exact hP
  have hS : va_S (fun q => s.heap.size ≤ q) s.heap H [] := by rw [hHe]; exact hS
  refine W_heq hHe ?_
  unfold f_X2_exists at hf
  refine lv_iload_n hx hb dX2_exists_0 rfl (lv_at hl 1 rfl) ?_
  refine lv_if_lt (tgt := 22) hx hb dX2_exists_1 (by decide) (fun h1 => ?_) (fun h1 => ?_)
  · have hf := ipos h1 hf
    refine lv_iconst (v := 0) hx hb dX2_exists_22 (by decide) ?_
    cases hf
    exact W.zret hx hb hr rfl (fun t ht hW => ⟨⟨_, (), rfl, rfl, (ht.trans hHe)⟩, hS.F ht⟩) hS.2.2 dX2_exists_23
  · have hf := ineg h1 hf
    refine lv_iload_n hx hb dX2_exists_4 rfl (lv_at hl 1 rfl) ?_
    refine lv_aload_n hx hb dX2_exists_5 rfl (lv_at hl 0 rfl) ?_
    refine va_get (D := D) (ci := 1) (v := .int c_count) (C := RX2) (T := TX2) (N := 10) hx hb hts (fun w h => mb (iX2 w h)) hown hK hP 0 rfl rfl 0 (by decide) (hts _ (mb tb_124)) (fun _ h9 => h9) rfl dX2_exists_6 ?_
    refine lv_icmp_ge (tgt := 22) hx hb dX2_exists_9 (by decide) (fun h2 => ?_) (fun h2 => ?_)
    · have hf := ipos h2 hf
      refine lv_iconst (v := 0) hx hb dX2_exists_22 (by decide) ?_
      cases hf
      exact W.zret hx hb hr rfl (fun t ht hW => ⟨⟨_, (), rfl, rfl, (ht.trans hHe)⟩, hS.F ht⟩) hS.2.2 dX2_exists_23
    · have hf := ineg h2 hf
      refine lv_iload_n hx hb dX2_exists_12 rfl (lv_at hl 1 rfl) ?_
      refine lv_bipush (v := 40) hx hb dX2_exists_13 (by decide) ?_
      refine lv_icmp_ge (tgt := 22) hx hb dX2_exists_15 (by decide) (fun h3 => ?_) (fun h3 => ?_)
      · have hf := ipos h3 hf
        refine lv_iconst (v := 0) hx hb dX2_exists_22 (by decide) ?_
        cases hf
        exact W.zret hx hb hr rfl (fun t ht hW => ⟨⟨_, (), rfl, rfl, (ht.trans hHe)⟩, hS.F ht⟩) hS.2.2 dX2_exists_23
      · have hf := ineg h3 hf
        refine lv_iconst (v := 1) hx hb dX2_exists_18 (by decide) ?_
        refine lv_goto (tgt := 23) hx hb dX2_exists_19 (by decide) ?_
        cases hf
        exact W.zret hx hb hr rfl (fun t ht hW => ⟨⟨_, (), rfl, rfl, (ht.trans hHe)⟩, hS.F ht⟩) hS.2.2 dX2_exists_23
def f_X2_isOf (v1 : Int32) (v2 : Int32) (c_count : Int32) (c_product : Nat → Int32) : Option (Int32) :=
  bnd1 (f_X2_exists v1 c_count) (fun r1 =>
  ((if r1 = 0 then some 0
  else gd v1 40 ((if (c_product v1.toNatClampNeg) = v2 then some 1
  else some 0)))))
set_option maxHeartbeats 4000000 in
set_option maxRecDepth 100000 in
theorem k_X2_isOf (l : Launch) (hl0 : l.stackTraces = false) (D : va_G) (cI cJ cZ cS : ClassId) (B0 : Nat) (H0 : Heap) (a0 a_customer a_product a_open a_due a_life a_byDue a_had a_stamps : Nat) (c_count : Int32) (c_gifts : Int32) (c_product : Nat → Int32) (v1 : Int32) (v2 : Int32) (r9 : Int32)  (hf : f_X2_isOf v1 v2 c_count c_product = some r9) : Met l yX2_isOf (wz yX2_isOf cX2_isOf 3 (some .boolean)) ({ frames := 1, cells := 0, slots := 0, locals := 21 }) (va_Pc [.ref a0, .int v1, .int v2] (rp D cI cJ cZ cS B0 [oX2 a0 c_count c_gifts a_customer a_product a_open a_due a_life a_byDue a_had a_stamps, rI cI a_product 40 c_product] H0)) (va_Qi (fun (r2 : Int32) (_ : Unit) => r2 = r9) (fun _ t => t.heap = H0) (fun q => H0.size ≤ q)) 0 0 (fun q => H0.size ≤ q) := by
  refine Met.ofW (cc := cX2_isOf) (maxL := 3) (ret := (some .boolean)) (by decide) rfl ?_
  intro p e s m args below meth c s₁ B hml hv
  obtain ⟨rfl, hH, hP, hK, hB0, hE⟩ := hv
  subst hH
  have hx := B.exec
  have hb := B.bytes
  have hr := B.returns
  have hts := atoms_spec (ws := (wz yX2_isOf cX2_isOf 3 (some .boolean))) B.pre
  have hown : s.vm.findClass RX2 = some m.cls := findClass_of_methodNamed B.named
  have hlocks := B.notSynchronized
  have hAB : ∀ q : Nat, s.heap.size ≤ q → B0 ≤ q := fun q h => Nat.le_trans hB0 h
  have hA : ∀ q : Nat, s.heap.size ≤ q → s.heap.size ≤ q := fun _ h => h
  have hS : va_S (fun q => s.heap.size ≤ q) s.heap s.heap [] := va_S.rf
  have hBn := fun (H : Heap) (locs : List Loc) (h : va_S (fun q => s.heap.size ≤ q) s.heap H locs) => Nat.le_trans hB0 h.1
  have hEn := fun (H : Heap) (locs : List Loc) (h : va_S (fun q => s.heap.size ≤ q) s.heap H locs) => gE_now hE h hAB
  have hl := lv_entry ([.ref a0, .int v1, .int v2]) (n := 3) (Nat.le_of_ble_eq_true rfl)
  rw [lg_entry_eq]
  generalize (lg_sl ([.ref a0, .int v1, .int v2]) ++ List.replicate (3 - (lg_sl ([.ref a0, .int v1, .int v2])).length) Slot.unset).toArray = ls at hl ⊢
  have hl : lv_has ls 3 [(0, .ref a0), (1, .int v1), (2, .int v2)] := hl
  obtain ⟨H, hHe⟩ : ∃ H : Heap, H = s.heap := ⟨_, rfl⟩
  have hP : va_P D vwCl [oX2 a0 c_count c_gifts a_customer a_product a_open a_due a_life a_byDue a_had a_stamps, rI cI a_product 40 c_product] H := by rw [hHe]; exact hP
  have hS : va_S (fun q => s.heap.size ≤ q) s.heap H [] := by rw [hHe]; exact hS
  refine W_heq hHe ?_
  unfold f_X2_isOf at hf
  refine lv_aload_n hx hb dX2_isOf_0 rfl (lv_at hl 0 rfl) ?_
  refine lv_iload_n hx hb dX2_isOf_1 rfl (lv_at hl 1 rfl) ?_
  obtain ⟨r1, hc2, hf⟩ := ob1 hf
  refine ro_calli (r := r1) (va_runV (As := [.int v1]) (rest := []) ⟨hx, hb, hml, hown, hts⟩ (k_X2_exists l hl0 D cI cJ cZ cS B0 H a0 a_customer a_product a_open a_due a_life a_byDue a_had a_stamps c_count c_gifts v1 r1 hc2) (cwV 1 hts (gV tb_563 tb_564 tb_565 tb_5 tb_566) rfl rfl rfl (by decide +kernel) ⟨Nat.le_of_ble_eq_true rfl, Nat.le_of_ble_eq_true rfl⟩) ⟨rp_blind, va_recv hK hP (ci := 1) (q0 := 0) rfl rfl, rp_pre (hP.sub [0] rfl) hK (hBn _ _ hS) (hEn _ _ hS)⟩ rfl rfl hl.1 rfl (lv_room (Nat.le_of_ble_eq_true rfl)) dX2_isOf_2 ⟨Nat.le_of_ble_eq_true rfl, Nat.le_of_ble_eq_true rfl⟩) ?_
  refine lv_if_eq (tgt := 22) hx hb dX2_isOf_5 (by decide) (fun h3 => ?_) (fun h3 => ?_)
  · have hf := ipos h3 hf
    refine lv_iconst (v := 0) hx hb dX2_isOf_22 (by decide) ?_
    cases hf
    exact W.zret hx hb hr rfl (fun t ht hW => ⟨⟨_, (), rfl, rfl, (ht.trans hHe)⟩, hS.F ht⟩) hS.2.2 dX2_isOf_23
  · have hf := ineg h3 hf
    refine lv_aload_n hx hb dX2_isOf_8 rfl (lv_at hl 0 rfl) ?_
    refine va_get (D := D) (ci := 1) (v := .ref a_product) (C := RX2) (T := TX2) (N := 10) hx hb hts (fun w h => mb (iX2 w h)) hown hK hP 0 rfl rfl 3 (by decide) (hts _ (mb tb_129)) (fun _ h9 => h9) rfl dX2_isOf_9 ?_
    refine lv_iload_n hx hb dX2_isOf_12 rfl (lv_at hl 1 rfl) ?_
    obtain ⟨h4, hf⟩ := ob_d hf
    refine va_iald hx hb hK hP 1 0 rfl rfl h4 dX2_isOf_13 ?_
    refine lv_iload_n hx hb dX2_isOf_14 rfl (lv_at hl 2 rfl) ?_
    refine lv_icmp_ne (tgt := 22) hx hb dX2_isOf_15 (by decide) (fun h5 => ?_) (fun h5 => ?_)
    · have hf := ineg h5 hf
      refine lv_iconst (v := 0) hx hb dX2_isOf_22 (by decide) ?_
      cases hf
      exact W.zret hx hb hr rfl (fun t ht hW => ⟨⟨_, (), rfl, rfl, (ht.trans hHe)⟩, hS.F ht⟩) hS.2.2 dX2_isOf_23
    · have hf := ipos h5 hf
      refine lv_iconst (v := 1) hx hb dX2_isOf_18 (by decide) ?_
      refine lv_goto (tgt := 23) hx hb dX2_isOf_19 (by decide) ?_
      cases hf
      exact W.zret hx hb hr rfl (fun t ht hW => ⟨⟨_, (), rfl, rfl, (ht.trans hHe)⟩, hS.F ht⟩) hS.2.2 dX2_isOf_23
def f_X2_wantedDay (v1 : Int32) (c_count : Int32) (c_due : Nat → Int32) (c_life : Nat → Int32) : Option (Int32) :=
  bnd1 (f_X2_exists v1 c_count) (fun r1 =>
  ((if r1 = 0 then some (-1)
  else gd v1 40 (gd v1 40 (some ((c_due v1.toNatClampNeg) + (c_life v1.toNatClampNeg)))))))
set_option maxHeartbeats 4000000 in
set_option maxRecDepth 100000 in
theorem k_X2_wantedDay (l : Launch) (hl0 : l.stackTraces = false) (D : va_G) (cI cJ cZ cS : ClassId) (B0 : Nat) (H0 : Heap) (a0 a_customer a_product a_open a_due a_life a_byDue a_had a_stamps : Nat) (c_count : Int32) (c_gifts : Int32) (c_due : Nat → Int32) (c_life : Nat → Int32) (v1 : Int32) (r9 : Int32)  (hf : f_X2_wantedDay v1 c_count c_due c_life = some r9) : Met l yX2_wantedDay (wz yX2_wantedDay cX2_wantedDay 2 (some .int)) ({ frames := 1, cells := 0, slots := 0, locals := 21 }) (va_Pc [.ref a0, .int v1] (rp D cI cJ cZ cS B0 [oX2 a0 c_count c_gifts a_customer a_product a_open a_due a_life a_byDue a_had a_stamps, rI cI a_due 40 c_due, rI cI a_life 40 c_life] H0)) (va_Qi (fun (r2 : Int32) (_ : Unit) => r2 = r9) (fun _ t => t.heap = H0) (fun q => H0.size ≤ q)) 0 0 (fun q => H0.size ≤ q) := by
  refine Met.ofW (cc := cX2_wantedDay) (maxL := 2) (ret := (some .int)) (by decide) rfl ?_
  intro p e s m args below meth c s₁ B hml hv
  obtain ⟨rfl, hH, hP, hK, hB0, hE⟩ := hv
  subst hH
  have hx := B.exec
  have hb := B.bytes
  have hr := B.returns
  have hts := atoms_spec (ws := (wz yX2_wantedDay cX2_wantedDay 2 (some .int))) B.pre
  have hown : s.vm.findClass RX2 = some m.cls := findClass_of_methodNamed B.named
  have hlocks := B.notSynchronized
  have hAB : ∀ q : Nat, s.heap.size ≤ q → B0 ≤ q := fun q h => Nat.le_trans hB0 h
  have hA : ∀ q : Nat, s.heap.size ≤ q → s.heap.size ≤ q := fun _ h => h
  have hS : va_S (fun q => s.heap.size ≤ q) s.heap s.heap [] := va_S.rf
  have hBn := fun (H : Heap) (locs : List Loc) (h : va_S (fun q => s.heap.size ≤ q) s.heap H locs) => Nat.le_trans hB0 h.1
  have hEn := fun (H : Heap) (locs : List Loc) (h : va_S (fun q => s.heap.size ≤ q) s.heap H locs) => gE_now hE h hAB
  have hl := lv_entry ([.ref a0, .int v1]) (n := 2) (Nat.le_of_ble_eq_true rfl)
  rw [lg_entry_eq]
  generalize (lg_sl ([.ref a0, .int v1]) ++ List.replicate (2 - (lg_sl ([.ref a0, .int v1])).length) Slot.unset).toArray = ls at hl ⊢
  have hl : lv_has ls 2 [(0, .ref a0), (1, .int v1)] := hl
  obtain ⟨H, hHe⟩ : ∃ H : Heap, H = s.heap := ⟨_, rfl⟩
  have hP : va_P D vwCl [oX2 a0 c_count c_gifts a_customer a_product a_open a_due a_life a_byDue a_had a_stamps, rI cI a_due 40 c_due, rI cI a_life 40 c_life] H := by rw [hHe]; exact hP
  have hS : va_S (fun q => s.heap.size ≤ q) s.heap H [] := by rw [hHe]; exact hS
  refine W_heq hHe ?_
  unfold f_X2_wantedDay at hf
  refine lv_aload_n hx hb dX2_wantedDay_0 rfl (lv_at hl 0 rfl) ?_
  refine lv_iload_n hx hb dX2_wantedDay_1 rfl (lv_at hl 1 rfl) ?_
  obtain ⟨r1, hc2, hf⟩ := ob1 hf
  refine ro_calli (r := r1) (va_runV (As := [.int v1]) (rest := []) ⟨hx, hb, hml, hown, hts⟩ (k_X2_exists l hl0 D cI cJ cZ cS B0 H a0 a_customer a_product a_open a_due a_life a_byDue a_had a_stamps c_count c_gifts v1 r1 hc2) (cwV 1 hts (gV tb_563 tb_564 tb_565 tb_5 tb_566) rfl rfl rfl (by decide +kernel) ⟨Nat.le_of_ble_eq_true rfl, Nat.le_of_ble_eq_true rfl⟩) ⟨rp_blind, va_recv hK hP (ci := 1) (q0 := 0) rfl rfl, rp_pre (hP.sub [0] rfl) hK (hBn _ _ hS) (hEn _ _ hS)⟩ rfl rfl hl.1 rfl (lv_room (Nat.le_of_ble_eq_true rfl)) dX2_wantedDay_2 ⟨Nat.le_of_ble_eq_true rfl, Nat.le_of_ble_eq_true rfl⟩) ?_
  refine lv_if_eq (tgt := 24) hx hb dX2_wantedDay_5 (by decide) (fun h3 => ?_) (fun h3 => ?_)
  · have hf := ipos h3 hf
    refine lv_iconst (v := (-1)) hx hb dX2_wantedDay_24 (by decide) ?_
    cases hf
    exact W.iret hx hb hr (fun t ht hW => ⟨⟨_, (), rfl, rfl, (ht.trans hHe)⟩, hS.F ht⟩) hS.2.2 dX2_wantedDay_25
  · have hf := ineg h3 hf
    refine lv_aload_n hx hb dX2_wantedDay_8 rfl (lv_at hl 0 rfl) ?_
    refine va_get (D := D) (ci := 1) (v := .ref a_due) (C := RX2) (T := TX2) (N := 10) hx hb hts (fun w h => mb (iX2 w h)) hown hK hP 0 rfl rfl 5 (by decide) (hts _ (mb tb_133)) (fun _ h9 => h9) rfl dX2_wantedDay_9 ?_
    refine lv_iload_n hx hb dX2_wantedDay_12 rfl (lv_at hl 1 rfl) ?_
    obtain ⟨h4, hf⟩ := ob_d hf
    refine va_iald hx hb hK hP 1 0 rfl rfl h4 dX2_wantedDay_13 ?_
    refine lv_aload_n hx hb dX2_wantedDay_14 rfl (lv_at hl 0 rfl) ?_
    refine va_get (D := D) (ci := 1) (v := .ref a_life) (C := RX2) (T := TX2) (N := 10) hx hb hts (fun w h => mb (iX2 w h)) hown hK hP 0 rfl rfl 6 (by decide) (hts _ (mb tb_135)) (fun _ h9 => h9) rfl dX2_wantedDay_15 ?_
    refine lv_iload_n hx hb dX2_wantedDay_18 rfl (lv_at hl 1 rfl) ?_
    obtain ⟨h5, hf⟩ := ob_d hf
    refine va_iald hx hb hK hP 2 0 rfl rfl h5 dX2_wantedDay_19 ?_
    refine lv_iadd hx hb dX2_wantedDay_20 ?_
    refine lv_goto (tgt := 25) hx hb dX2_wantedDay_21 (by decide) ?_
    cases hf
    exact W.iret hx hb hr (fun t ht hW => ⟨⟨_, (), rfl, rfl, (ht.trans hHe)⟩, hS.F ht⟩) hS.2.2 dX2_wantedDay_25
def f_X2_dueOf (v1 : Int32) (c_count : Int32) (c_due : Nat → Int32) : Option (Int32) :=
  bnd1 (f_X2_exists v1 c_count) (fun r1 =>
  ((if r1 = 0 then some (-1)
  else gd v1 40 (some (c_due v1.toNatClampNeg)))))
set_option maxHeartbeats 4000000 in
set_option maxRecDepth 100000 in
theorem k_X2_dueOf (l : Launch) (hl0 : l.stackTraces = false) (D : va_G) (cI cJ cZ cS : ClassId) (B0 : Nat) (H0 : Heap) (a0 a_customer a_product a_open a_due a_life a_byDue a_had a_stamps : Nat) (c_count : Int32) (c_gifts : Int32) (c_due : Nat → Int32) (v1 : Int32) (r9 : Int32)  (hf : f_X2_dueOf v1 c_count c_due = some r9) : Met l yX2_dueOf (wz yX2_dueOf cX2_dueOf 2 (some .int)) ({ frames := 1, cells := 0, slots := 0, locals := 21 }) (va_Pc [.ref a0, .int v1] (rp D cI cJ cZ cS B0 [oX2 a0 c_count c_gifts a_customer a_product a_open a_due a_life a_byDue a_had a_stamps, rI cI a_due 40 c_due] H0)) (va_Qi (fun (r2 : Int32) (_ : Unit) => r2 = r9) (fun _ t => t.heap = H0) (fun q => H0.size ≤ q)) 0 0 (fun q => H0.size ≤ q) := by
  refine Met.ofW (cc := cX2_dueOf) (maxL := 2) (ret := (some .int)) (by decide) rfl ?_
  intro p e s m args below meth c s₁ B hml hv
  obtain ⟨rfl, hH, hP, hK, hB0, hE⟩ := hv
  subst hH
  have hx := B.exec
  have hb := B.bytes
  have hr := B.returns
  have hts := atoms_spec (ws := (wz yX2_dueOf cX2_dueOf 2 (some .int))) B.pre
  have hown : s.vm.findClass RX2 = some m.cls := findClass_of_methodNamed B.named
  have hlocks := B.notSynchronized
  have hAB : ∀ q : Nat, s.heap.size ≤ q → B0 ≤ q := fun q h => Nat.le_trans hB0 h
  have hA : ∀ q : Nat, s.heap.size ≤ q → s.heap.size ≤ q := fun _ h => h
  have hS : va_S (fun q => s.heap.size ≤ q) s.heap s.heap [] := va_S.rf
  have hBn := fun (H : Heap) (locs : List Loc) (h : va_S (fun q => s.heap.size ≤ q) s.heap H locs) => Nat.le_trans hB0 h.1
  have hEn := fun (H : Heap) (locs : List Loc) (h : va_S (fun q => s.heap.size ≤ q) s.heap H locs) => gE_now hE h hAB
  have hl := lv_entry ([.ref a0, .int v1]) (n := 2) (Nat.le_of_ble_eq_true rfl)
  rw [lg_entry_eq]
  generalize (lg_sl ([.ref a0, .int v1]) ++ List.replicate (2 - (lg_sl ([.ref a0, .int v1])).length) Slot.unset).toArray = ls at hl ⊢
  have hl : lv_has ls 2 [(0, .ref a0), (1, .int v1)] := hl
  obtain ⟨H, hHe⟩ : ∃ H : Heap, H = s.heap := ⟨_, rfl⟩
  have hP : va_P D vwCl [oX2 a0 c_count c_gifts a_customer a_product a_open a_due a_life a_byDue a_had a_stamps, rI cI a_due 40 c_due] H := by rw [hHe]; exact hP
  have hS : va_S (fun q => s.heap.size ≤ q) s.heap H [] := by rw [hHe]; exact hS
  refine W_heq hHe ?_
  unfold f_X2_dueOf at hf
  refine lv_aload_n hx hb dX2_dueOf_0 rfl (lv_at hl 0 rfl) ?_
  refine lv_iload_n hx hb dX2_dueOf_1 rfl (lv_at hl 1 rfl) ?_
  obtain ⟨r1, hc2, hf⟩ := ob1 hf
  refine ro_calli (r := r1) (va_runV (As := [.int v1]) (rest := []) ⟨hx, hb, hml, hown, hts⟩ (k_X2_exists l hl0 D cI cJ cZ cS B0 H a0 a_customer a_product a_open a_due a_life a_byDue a_had a_stamps c_count c_gifts v1 r1 hc2) (cwV 1 hts (gV tb_563 tb_564 tb_565 tb_5 tb_566) rfl rfl rfl (by decide +kernel) ⟨Nat.le_of_ble_eq_true rfl, Nat.le_of_ble_eq_true rfl⟩) ⟨rp_blind, va_recv hK hP (ci := 1) (q0 := 0) rfl rfl, rp_pre (hP.sub [0] rfl) hK (hBn _ _ hS) (hEn _ _ hS)⟩ rfl rfl hl.1 rfl (lv_room (Nat.le_of_ble_eq_true rfl)) dX2_dueOf_2 ⟨Nat.le_of_ble_eq_true rfl, Nat.le_of_ble_eq_true rfl⟩) ?_
  refine lv_if_eq (tgt := 17) hx hb dX2_dueOf_5 (by decide) (fun h3 => ?_) (fun h3 => ?_)
  · have hf := ipos h3 hf
    refine lv_iconst (v := (-1)) hx hb dX2_dueOf_17 (by decide) ?_
    cases hf
    exact W.iret hx hb hr (fun t ht hW => ⟨⟨_, (), rfl, rfl, (ht.trans hHe)⟩, hS.F ht⟩) hS.2.2 dX2_dueOf_18
  · have hf := ineg h3 hf
    refine lv_aload_n hx hb dX2_dueOf_8 rfl (lv_at hl 0 rfl) ?_
    refine va_get (D := D) (ci := 1) (v := .ref a_due) (C := RX2) (T := TX2) (N := 10) hx hb hts (fun w h => mb (iX2 w h)) hown hK hP 0 rfl rfl 5 (by decide) (hts _ (mb tb_133)) (fun _ h9 => h9) rfl dX2_dueOf_9 ?_
    refine lv_iload_n hx hb dX2_dueOf_12 rfl (lv_at hl 1 rfl) ?_
    obtain ⟨h4, hf⟩ := ob_d hf
    refine va_iald hx hb hK hP 1 0 rfl rfl h4 dX2_dueOf_13 ?_
    refine lv_goto (tgt := 18) hx hb dX2_dueOf_14 (by decide) ?_
    cases hf
    exact W.iret hx hb hr (fun t ht hW => ⟨⟨_, (), rfl, rfl, (ht.trans hHe)⟩, hS.F ht⟩) hS.2.2 dX2_dueOf_18
def f_X2_isCell (v1 : Int32) (v2 : Int32) (c_count : Int32) : Option (Int32) :=
  bnd1 (f_X2_exists v1 c_count) (fun r1 =>
  ((if r1 = 0 then some 0
  else (if v2 < 0 then some 0
  else (if 24 ≤ v2 then some 0
  else some 1)))))
set_option maxHeartbeats 4000000 in
set_option maxRecDepth 100000 in
theorem k_X2_isCell (l : Launch) (hl0 : l.stackTraces = false) (D : va_G) (cI cJ cZ cS : ClassId) (B0 : Nat) (H0 : Heap) (a0 a_customer a_product a_open a_due a_life a_byDue a_had a_stamps : Nat) (c_count : Int32) (c_gifts : Int32) (v1 : Int32) (v2 : Int32) (r9 : Int32)  (hf : f_X2_isCell v1 v2 c_count = some r9) : Met l yX2_isCell (wz yX2_isCell cX2_isCell 3 (some .boolean)) ({ frames := 1, cells := 0, slots := 0, locals := 21 }) (va_Pc [.ref a0, .int v1, .int v2] (rp D cI cJ cZ cS B0 [oX2 a0 c_count c_gifts a_customer a_product a_open a_due a_life a_byDue a_had a_stamps] H0)) (va_Qi (fun (r2 : Int32) (_ : Unit) => r2 = r9) (fun _ t => t.heap = H0) (fun q => H0.size ≤ q)) 0 0 (fun q => H0.size ≤ q) := by
  refine Met.ofW (cc := cX2_isCell) (maxL := 3) (ret := (some .boolean)) (by decide) rfl ?_
  intro p e s m args below meth c s₁ B hml hv
  obtain ⟨rfl, hH, hP, hK, hB0, hE⟩ := hv
  subst hH
  have hx := B.exec
  have hb := B.bytes
  have hr := B.returns
  have hts := atoms_spec (ws := (wz yX2_isCell cX2_isCell 3 (some .boolean))) B.pre
  have hown : s.vm.findClass RX2 = some m.cls := findClass_of_methodNamed B.named
  have hlocks := B.notSynchronized
  have hAB : ∀ q : Nat, s.heap.size ≤ q → B0 ≤ q := fun q h => Nat.le_trans hB0 h
  have hA : ∀ q : Nat, s.heap.size ≤ q → s.heap.size ≤ q := fun _ h => h
  have hS : va_S (fun q => s.heap.size ≤ q) s.heap s.heap [] := va_S.rf
  have hBn := fun (H : Heap) (locs : List Loc) (h : va_S (fun q => s.heap.size ≤ q) s.heap H locs) => Nat.le_trans hB0 h.1
  have hEn := fun (H : Heap) (locs : List Loc) (h : va_S (fun q => s.heap.size ≤ q) s.heap H locs) => gE_now hE h hAB
  have hl := lv_entry ([.ref a0, .int v1, .int v2]) (n := 3) (Nat.le_of_ble_eq_true rfl)
  rw [lg_entry_eq]
  generalize (lg_sl ([.ref a0, .int v1, .int v2]) ++ List.replicate (3 - (lg_sl ([.ref a0, .int v1, .int v2])).length) Slot.unset).toArray = ls at hl ⊢
  have hl : lv_has ls 3 [(0, .ref a0), (1, .int v1), (2, .int v2)] := hl
  obtain ⟨H, hHe⟩ : ∃ H : Heap, H = s.heap := ⟨_, rfl⟩
  have hP : va_P D vwCl [oX2 a0 c_count c_gifts a_customer a_product a_open a_due a_life a_byDue a_had a_stamps] H := by rw [hHe]; exact hP
  have hS : va_S (fun q => s.heap.size ≤ q) s.heap H [] := by rw [hHe]; exact hS
  refine W_heq hHe ?_
  unfold f_X2_isCell at hf
  refine lv_aload_n hx hb dX2_isCell_0 rfl (lv_at hl 0 rfl) ?_
  refine lv_iload_n hx hb dX2_isCell_1 rfl (lv_at hl 1 rfl) ?_
  obtain ⟨r1, hc2, hf⟩ := ob1 hf
  refine ro_calli (r := r1) (va_runV (As := [.int v1]) (rest := []) ⟨hx, hb, hml, hown, hts⟩ (k_X2_exists l hl0 D cI cJ cZ cS B0 H a0 a_customer a_product a_open a_due a_life a_byDue a_had a_stamps c_count c_gifts v1 r1 hc2) (cwV 1 hts (gV tb_563 tb_564 tb_565 tb_5 tb_566) rfl rfl rfl (by decide +kernel) ⟨Nat.le_of_ble_eq_true rfl, Nat.le_of_ble_eq_true rfl⟩) ⟨rp_blind, va_recv hK hP (ci := 1) (q0 := 0) rfl rfl, rp_pre (hP.sub [0] rfl) hK (hBn _ _ hS) (hEn _ _ hS)⟩ rfl rfl hl.1 rfl (lv_room (Nat.le_of_ble_eq_true rfl)) dX2_isCell_2 ⟨Nat.le_of_ble_eq_true rfl, Nat.le_of_ble_eq_true rfl⟩) ?_
  refine lv_if_eq (tgt := 22) hx hb dX2_isCell_5 (by decide) (fun h3 => ?_) (fun h3 => ?_)
  · have hf := ipos h3 hf
    refine lv_iconst (v := 0) hx hb dX2_isCell_22 (by decide) ?_
    cases hf
    exact W.zret hx hb hr rfl (fun t ht hW => ⟨⟨_, (), rfl, rfl, (ht.trans hHe)⟩, hS.F ht⟩) hS.2.2 dX2_isCell_23
  · have hf := ineg h3 hf
    refine lv_iload_n hx hb dX2_isCell_8 rfl (lv_at hl 2 rfl) ?_
    refine lv_if_lt (tgt := 22) hx hb dX2_isCell_9 (by decide) (fun h4 => ?_) (fun h4 => ?_)
    · have hf := ipos h4 hf
      refine lv_iconst (v := 0) hx hb dX2_isCell_22 (by decide) ?_
      cases hf
      exact W.zret hx hb hr rfl (fun t ht hW => ⟨⟨_, (), rfl, rfl, (ht.trans hHe)⟩, hS.F ht⟩) hS.2.2 dX2_isCell_23
    · have hf := ineg h4 hf
      refine lv_iload_n hx hb dX2_isCell_12 rfl (lv_at hl 2 rfl) ?_
      refine lv_bipush (v := 24) hx hb dX2_isCell_13 (by decide) ?_
      refine lv_icmp_ge (tgt := 22) hx hb dX2_isCell_15 (by decide) (fun h5 => ?_) (fun h5 => ?_)
      · have hf := ipos h5 hf
        refine lv_iconst (v := 0) hx hb dX2_isCell_22 (by decide) ?_
        cases hf
        exact W.zret hx hb hr rfl (fun t ht hW => ⟨⟨_, (), rfl, rfl, (ht.trans hHe)⟩, hS.F ht⟩) hS.2.2 dX2_isCell_23
      · have hf := ineg h5 hf
        refine lv_iconst (v := 1) hx hb dX2_isCell_18 (by decide) ?_
        refine lv_goto (tgt := 23) hx hb dX2_isCell_19 (by decide) ?_
        cases hf
        exact W.zret hx hb hr rfl (fun t ht hW => ⟨⟨_, (), rfl, rfl, (ht.trans hHe)⟩, hS.F ht⟩) hS.2.2 dX2_isCell_23
def f_X2_add_L17 (n1 : Int32) (n2 : Int32) (n3 : Int32) (n4 : Int32) (n5 : Int32) (c_count : Int32) (c_customer : Nat → Int32) (c_product : Nat → Int32) (c_open : Nat → Int32) (c_due : Nat → Int32) (c_life : Nat → Int32) (c_had : Nat → Int32) (c_stamps : Nat → Int32) (n6 : Int32) (c_byDue : Nat → Int32) : Option ((Int32 × (Nat → Int32)) ⊕ (Int32 × (Nat → Int32))) :=
  (if n6 ≤ 0 then some (.inr (n6, c_byDue))
  else gd (n6 - 1) 40 (bnd1 (f_X2_dueOf (c_byDue (n6 - 1).toNatClampNeg) c_count c_due) (fun r4 =>
  ((if r4 ≤ n4 then some (.inr (n6, c_byDue))
  else gd (n6 - 1) 40 (gd n6 40 (some (.inl (n6 + (-1), upd c_byDue n6.toNatClampNeg (c_byDue (n6 - 1).toNatClampNeg))))))))))
def f_X2_add_L128 (c_count : Int32) (c_customer : Nat → Int32) (c_product : Nat → Int32) (c_open : Nat → Int32) (c_due : Nat → Int32) (c_life : Nat → Int32) (c_byDue : Nat → Int32) (n7 : Int32) (c_had : Nat → Int32) (c_stamps : Nat → Int32) : Option ((Int32 × (Nat → Int32) × (Nat → Int32)) ⊕ ((Nat → Int32) × (Nat → Int32))) :=
  (if 24 ≤ n7 then some (.inr (c_had, c_stamps))
  else gd ((c_count * 24) + n7) 960 (gd ((c_count * 24) + n7) 960 (some (.inl (n7 + 1, upd c_had ((c_count * 24) + n7).toNatClampNeg 0, upd c_stamps ((c_count * 24) + n7).toNatClampNeg 0)))))
def f_X2_add (v1 : Int32) (v2 : Int32) (v3 : Int32) (v4 : Int32) (v5 : Int32) (c_count : Int32) (c_customer : Nat → Int32) (c_product : Nat → Int32) (c_open : Nat → Int32) (c_due : Nat → Int32) (c_life : Nat → Int32) (c_byDue : Nat → Int32) (c_had : Nat → Int32) (c_stamps : Nat → Int32) : Option (Int32 × Int32 × (Nat → Int32) × (Nat → Int32) × (Nat → Int32) × (Nat → Int32) × (Nat → Int32) × (Nat → Int32) × (Nat → Int32) × (Nat → Int32)) :=
  (if c_count < 40 then (bnd2 (loop (fun z => f_X2_add_L17 v1 v2 v3 v4 v5 c_count c_customer c_product c_open c_due c_life c_had c_stamps z.1 z.2) fu (c_count, c_byDue)) fun m10 c11 =>
  gd m10 40 (gd c_count 40 (gd c_count 40 (gd c_count 40 (gd c_count 40 (gd c_count 40 ((bnd2 (loop (fun z => f_X2_add_L128 c_count (upd c_customer c_count.toNatClampNeg v1) (upd c_product c_count.toNatClampNeg v2) (upd c_open c_count.toNatClampNeg v3) (upd c_due c_count.toNatClampNeg v4) (upd c_life c_count.toNatClampNeg v5) (upd c11 m10.toNatClampNeg c_count) z.1 z.2.1 z.2.2) fu (0, c_had, c_stamps)) fun c22 c23 =>
  some ((c_count + 1) - 1, c_count + 1, upd c_customer c_count.toNatClampNeg v1, upd c_product c_count.toNatClampNeg v2, upd c_open c_count.toNatClampNeg v3, upd c_due c_count.toNatClampNeg v4, upd c_life c_count.toNatClampNeg v5, upd c11 m10.toNatClampNeg c_count, c22, c23)))))))))
  else some ((-1), c_count, c_customer, c_product, c_open, c_due, c_life, c_byDue, c_had, c_stamps))
set_option maxHeartbeats 4000000 in
set_option maxRecDepth 100000 in
theorem k_X2_add (l : Launch) (hl0 : l.stackTraces = false) (D : va_G) (cI cJ cZ cS : ClassId) (B0 : Nat) (sz : Nat) (a0 a_customer a_product a_open a_due a_life a_byDue a_had a_stamps : Nat) (c_count : Int32) (c_gifts : Int32) (c_customer : Nat → Int32) (c_product : Nat → Int32) (c_open : Nat → Int32) (c_due : Nat → Int32) (c_life : Nat → Int32) (c_byDue : Nat → Int32) (c_had : Nat → Int32) (c_stamps : Nat → Int32) (v1 : Int32) (v2 : Int32) (v3 : Int32) (v4 : Int32) (v5 : Int32) (r9 : Int32) (oc_count : Int32) (oc_customer : Nat → Int32) (oc_product : Nat → Int32) (oc_open : Nat → Int32) (oc_due : Nat → Int32) (oc_life : Nat → Int32) (oc_byDue : Nat → Int32) (oc_had : Nat → Int32) (oc_stamps : Nat → Int32)  (hf : f_X2_add v1 v2 v3 v4 v5 c_count c_customer c_product c_open c_due c_life c_byDue c_had c_stamps = some (r9, oc_count, oc_customer, oc_product, oc_open, oc_due, oc_life, oc_byDue, oc_had, oc_stamps)) : Met l yX2_add (wz yX2_add cX2_add 8 (some .int)) ({ frames := 2, cells := 0, slots := 0, locals := 42 }) (va_Pc [.ref a0, .int v1, .int v2, .int v3, .int v4, .int v5] (wp D cI cJ cZ cS B0 [oX2 a0 c_count c_gifts a_customer a_product a_open a_due a_life a_byDue a_had a_stamps, rI cI a_customer 40 c_customer, rI cI a_product 40 c_product, rI cI a_open 40 c_open, rI cI a_due 40 c_due, rI cI a_life 40 c_life, rI cI a_byDue 40 c_byDue, rI cI a_had 960 c_had, rI cI a_stamps 960 c_stamps] sz)) (va_Qi (fun (r2 : Int32) (_ : Unit) => r2 = r9) (fun _ t => va_P D vwCl [oX2 a0 oc_count c_gifts a_customer a_product a_open a_due a_life a_byDue a_had a_stamps, rI cI a_customer 40 oc_customer, rI cI a_product 40 oc_product, rI cI a_open 40 oc_open, rI cI a_due 40 oc_due, rI cI a_life 40 oc_life, rI cI a_byDue 40 oc_byDue, rI cI a_had 960 oc_had, rI cI a_stamps 960 oc_stamps] t.heap) (va_A [oX2 a0 c_count c_gifts a_customer a_product a_open a_due a_life a_byDue a_had a_stamps, rI cI a_customer 40 c_customer, rI cI a_product 40 c_product, rI cI a_open 40 c_open, rI cI a_due 40 c_due, rI cI a_life 40 c_life, rI cI a_byDue 40 c_byDue, rI cI a_had 960 c_had, rI cI a_stamps 960 c_stamps] sz)) 0 0 (va_A [oX2 a0 c_count c_gifts a_customer a_product a_open a_due a_life a_byDue a_had a_stamps, rI cI a_customer 40 c_customer, rI cI a_product 40 c_product, rI cI a_open 40 c_open, rI cI a_due 40 c_due, rI cI a_life 40 c_life, rI cI a_byDue 40 c_byDue, rI cI a_had 960 c_had, rI cI a_stamps 960 c_stamps] sz) := by
  refine Met.ofW (cc := cX2_add) (maxL := 8) (ret := (some .int)) (by decide) rfl ?_
  intro p e s m args below meth c s₁ B hml hv
  obtain ⟨rfl, hsz, hP, hK, hD0, hB0, hE⟩ := hv
  subst hsz
  have hx := B.exec
  have hb := B.bytes
  have hr := B.returns
  have hts := atoms_spec (ws := (wz yX2_add cX2_add 8 (some .int))) B.pre
  have hown : s.vm.findClass RX2 = some m.cls := findClass_of_methodNamed B.named
  have hlocks := B.notSynchronized
  have hD := hD0.self (sz := s.heap.size)
  have hAB : ∀ q : Nat, va_A [oX2 a0 c_count c_gifts a_customer a_product a_open a_due a_life a_byDue a_had a_stamps, rI cI a_customer 40 c_customer, rI cI a_product 40 c_product, rI cI a_open 40 c_open, rI cI a_due 40 c_due, rI cI a_life 40 c_life, rI cI a_byDue 40 c_byDue, rI cI a_had 960 c_had, rI cI a_stamps 960 c_stamps] s.heap.size q → B0 ≤ q := va_A_B hD0 hB0
  generalize hAe : va_A [oX2 a0 c_count c_gifts a_customer a_product a_open a_due a_life a_byDue a_had a_stamps, rI cI a_customer 40 c_customer, rI cI a_product 40 c_product, rI cI a_open 40 c_open, rI cI a_due 40 c_due, rI cI a_life 40 c_life, rI cI a_byDue 40 c_byDue, rI cI a_had 960 c_had, rI cI a_stamps 960 c_stamps] s.heap.size = A at hD hAB ⊢
  have hA : ∀ q : Nat, s.heap.size ≤ q → A q := fun q h => by rw [← hAe]; exact Or.inr h
  have hFa := hA
  have hS : va_S A s.heap s.heap [] := va_S.rf
  have hBn := fun (H : Heap) (locs : List Loc) (h : va_S A s.heap H locs) => Nat.le_trans hB0 h.1
  have hEn := fun (H : Heap) (locs : List Loc) (h : va_S A s.heap H locs) => gE_now hE h hAB
  have hl := lv_entry ([.ref a0, .int v1, .int v2, .int v3, .int v4, .int v5]) (n := 8) (Nat.le_of_ble_eq_true rfl)
  rw [lg_entry_eq]
  generalize (lg_sl ([.ref a0, .int v1, .int v2, .int v3, .int v4, .int v5]) ++ List.replicate (8 - (lg_sl ([.ref a0, .int v1, .int v2, .int v3, .int v4, .int v5])).length) Slot.unset).toArray = ls at hl ⊢
  have hl : lv_has ls 8 [(0, .ref a0), (1, .int v1), (2, .int v2), (3, .int v3), (4, .int v4), (5, .int v5)] := hl
  obtain ⟨H, hHe⟩ : ∃ H : Heap, H = s.heap := ⟨_, rfl⟩
  have hP : va_P D vwCl [oX2 a0 c_count c_gifts a_customer a_product a_open a_due a_life a_byDue a_had a_stamps, rI cI a_customer 40 c_customer, rI cI a_product 40 c_product, rI cI a_open 40 c_open, rI cI a_due 40 c_due, rI cI a_life 40 c_life, rI cI a_byDue 40 c_byDue, rI cI a_had 960 c_had, rI cI a_stamps 960 c_stamps] H := by rw [hHe]; exact hP
  have hS : va_S A s.heap H [] := by rw [hHe]; exact hS
  refine W_heq hHe ?_
  unfold f_X2_add at hf
  refine gen_goW (fun WW hWW => ?_)
  have hL17 : ∀ (n : Nat) (n1 : Int32) (n2 : Int32) (n3 : Int32) (n4 : Int32) (n5 : Int32) (c_count : Int32) (c_customer : Nat → Int32) (c_product : Nat → Int32) (c_open : Nat → Int32) (c_due : Nat → Int32) (c_life : Nat → Int32) (c_had : Nat → Int32) (c_stamps : Nat → Int32) (n6 : Int32) (c_byDue : Nat → Int32) (e6 : Int32) (e_c_byDue : Nat → Int32), loop (fun z => f_X2_add_L17 n1 n2 n3 n4 n5 c_count c_customer c_product c_open c_due c_life c_had c_stamps z.1 z.2) n (n6, c_byDue) = some (e6, e_c_byDue) → (∀ (H : Heap) (locs : List Loc) (ls : Array Slot), va_P D vwCl [oX2 a0 c_count c_gifts a_customer a_product a_open a_due a_life a_byDue a_had a_stamps, rI cI a_customer 40 c_customer, rI cI a_product 40 c_product, rI cI a_open 40 c_open, rI cI a_due 40 c_due, rI cI a_life 40 c_life, rI cI a_byDue 40 e_c_byDue, rI cI a_had 960 c_had, rI cI a_stamps 960 c_stamps] H → va_D A [oX2 a0 c_count c_gifts a_customer a_product a_open a_due a_life a_byDue a_had a_stamps, rI cI a_customer 40 c_customer, rI cI a_product 40 c_product, rI cI a_open 40 c_open, rI cI a_due 40 c_due, rI cI a_life 40 c_life, rI cI a_byDue 40 e_c_byDue, rI cI a_had 960 c_had, rI cI a_stamps 960 c_stamps] → va_S A s.heap H locs → lv_has ls 8 [(0, .ref a0), (1, .int n1), (2, .int n2), (3, .int n3), (4, .int n4), (5, .int n5), (6, .int e6)] → WW H locs 0 0 (F0 m 62 ls [])) → ∀ (H : Heap) (locs : List Loc) (ls : Array Slot), va_P D vwCl [oX2 a0 c_count c_gifts a_customer a_product a_open a_due a_life a_byDue a_had a_stamps, rI cI a_customer 40 c_customer, rI cI a_product 40 c_product, rI cI a_open 40 c_open, rI cI a_due 40 c_due, rI cI a_life 40 c_life, rI cI a_byDue 40 c_byDue, rI cI a_had 960 c_had, rI cI a_stamps 960 c_stamps] H → va_D A [oX2 a0 c_count c_gifts a_customer a_product a_open a_due a_life a_byDue a_had a_stamps, rI cI a_customer 40 c_customer, rI cI a_product 40 c_product, rI cI a_open 40 c_open, rI cI a_due 40 c_due, rI cI a_life 40 c_life, rI cI a_byDue 40 c_byDue, rI cI a_had 960 c_had, rI cI a_stamps 960 c_stamps] → va_S A s.heap H locs → lv_has ls 8 [(0, .ref a0), (1, .int n1), (2, .int n2), (3, .int n3), (4, .int n4), (5, .int n5), (6, .int n6)] → WW H locs 0 0 (F0 m 17 ls []) := by
    intro n
    induction n with
    | zero =>
      intro n1 n2 n3 n4 n5 c_count c_customer c_product c_open c_due c_life c_had c_stamps n6 c_byDue e6 e_c_byDue hlp
      exact absurd hlp (by simp [loop])
    | succ n ih =>
      intro n1 n2 n3 n4 n5 c_count c_customer c_product c_open c_due c_life c_had c_stamps n6 c_byDue e6 e_c_byDue hlp K H locs ls hP hD hS hl
      obtain ⟨x9, hf, hlp⟩ := loop_s hlp
      have hf : f_X2_add_L17 n1 n2 n3 n4 n5 c_count c_customer c_product c_open c_due c_life c_had c_stamps n6 c_byDue = some x9 := hf
      unfold f_X2_add_L17 at hf
      refine (hWW _ _ _ _ _).mpr ?_
      refine lv_iload hx hb dX2_add_17 (lv_at hl 6 rfl) ?_
      refine lv_if_le (tgt := 62) hx hb dX2_add_19 (by decide) (fun h2 => ?_) (fun h2 => ?_)
      · have hf := ipos h2 hf
        obtain rfl := Option.some.inj hf
        cases lpx_r hlp
        exact (hWW _ _ _ _ _).mp (K _ _ ls hP hD hS (lv_sub hl [0, 1, 2, 3, 4, 5, 6] rfl))
      · have hf := ineg h2 hf
        refine lv_aload_n hx hb dX2_add_22 rfl (lv_at hl 0 rfl) ?_
        refine lv_aload_n hx hb dX2_add_23 rfl (lv_at hl 0 rfl) ?_
        refine va_get (D := D) (ci := 1) (v := .ref a_byDue) (C := RX2) (T := TX2) (N := 10) hx hb hts (fun w h => mb (iX2 w h)) hown hK hP 0 rfl rfl 7 (by decide) (hts _ (mb tb_136)) (fun _ h9 => h9) rfl dX2_add_24 ?_
        refine lv_iload hx hb dX2_add_27 (lv_at hl 6 rfl) ?_
        refine lv_iconst (v := 1) hx hb dX2_add_29 (by decide) ?_
        refine lv_isub hx hb dX2_add_30 ?_
        obtain ⟨h3, hf⟩ := ob_d hf
        refine va_iald hx hb hK hP 6 0 rfl rfl h3 dX2_add_31 ?_
        obtain ⟨r4, hc5, hf⟩ := ob1 hf
        refine ro_calli (r := r4) (va_runV (As := [.int (c_byDue (n6 - 1).toNatClampNeg)]) (rest := []) ⟨hx, hb, hml, hown, hts⟩ (k_X2_dueOf l hl0 D cI cJ cZ cS B0 H a0 a_customer a_product a_open a_due a_life a_byDue a_had a_stamps c_count c_gifts c_due (c_byDue (n6 - 1).toNatClampNeg) r4 hc5) (cwV 1 hts (gV tb_559 tb_561 ts_9 tb_5 tb_562) rfl rfl rfl (by decide +kernel) ⟨Nat.le_of_ble_eq_true rfl, Nat.le_of_ble_eq_true rfl⟩) ⟨rp_blind, va_recv hK hP (ci := 1) (q0 := 0) rfl rfl, rp_pre (hP.sub [0, 4] rfl) hK (hBn _ _ hS) (hEn _ _ hS)⟩ rfl rfl hl.1 rfl (lv_room (Nat.le_of_ble_eq_true rfl)) dX2_add_32 ⟨Nat.le_of_ble_eq_true rfl, Nat.le_of_ble_eq_true rfl⟩) ?_
        refine lv_iload hx hb dX2_add_35 (lv_at hl 4 rfl) ?_
        refine lv_icmp_le (tgt := 62) hx hb dX2_add_37 (by decide) (fun h6 => ?_) (fun h6 => ?_)
        · have hf := ipos h6 hf
          obtain rfl := Option.some.inj hf
          cases lpx_r hlp
          exact (hWW _ _ _ _ _).mp (K _ _ ls hP hD hS (lv_sub hl [0, 1, 2, 3, 4, 5, 6] rfl))
        · have hf := ineg h6 hf
          refine lv_aload_n hx hb dX2_add_40 rfl (lv_at hl 0 rfl) ?_
          refine va_get (D := D) (ci := 1) (v := .ref a_byDue) (C := RX2) (T := TX2) (N := 10) hx hb hts (fun w h => mb (iX2 w h)) hown hK hP 0 rfl rfl 7 (by decide) (hts _ (mb tb_136)) (fun _ h9 => h9) rfl dX2_add_41 ?_
          refine lv_iload hx hb dX2_add_44 (lv_at hl 6 rfl) ?_
          refine lv_aload_n hx hb dX2_add_46 rfl (lv_at hl 0 rfl) ?_
          refine va_get (D := D) (ci := 1) (v := .ref a_byDue) (C := RX2) (T := TX2) (N := 10) hx hb hts (fun w h => mb (iX2 w h)) hown hK hP 0 rfl rfl 7 (by decide) (hts _ (mb tb_136)) (fun _ h9 => h9) rfl dX2_add_47 ?_
          refine lv_iload hx hb dX2_add_50 (lv_at hl 6 rfl) ?_
          refine lv_iconst (v := 1) hx hb dX2_add_52 (by decide) ?_
          refine lv_isub hx hb dX2_add_53 ?_
          obtain ⟨h7, hf⟩ := ob_d hf
          refine va_iald hx hb hK hP 6 0 rfl rfl h7 dX2_add_54 ?_
          obtain ⟨h8, hf⟩ := ob_d hf
          refine va_iast hx hb hK hP hD hS 6 0 rfl rfl h8 dX2_add_55 (fun H locs hP hD hS => ?_)
          have hP : va_P D vwCl [oX2 a0 c_count c_gifts a_customer a_product a_open a_due a_life a_byDue a_had a_stamps, rI cI a_customer 40 c_customer, rI cI a_product 40 c_product, rI cI a_open 40 c_open, rI cI a_due 40 c_due, rI cI a_life 40 c_life, rI cI a_byDue 40 (upd c_byDue n6.toNatClampNeg (c_byDue (n6 - 1).toNatClampNeg)), rI cI a_had 960 c_had, rI cI a_stamps 960 c_stamps] H := hP
          have hD : va_D A [oX2 a0 c_count c_gifts a_customer a_product a_open a_due a_life a_byDue a_had a_stamps, rI cI a_customer 40 c_customer, rI cI a_product 40 c_product, rI cI a_open 40 c_open, rI cI a_due 40 c_due, rI cI a_life 40 c_life, rI cI a_byDue 40 (upd c_byDue n6.toNatClampNeg (c_byDue (n6 - 1).toNatClampNeg)), rI cI a_had 960 c_had, rI cI a_stamps 960 c_stamps] := hD
          refine lv_iinc (v := (n6 + (-1))) (lv' := [(6, .int (n6 + (-1))), (0, .ref a0), (1, .int n1), (2, .int n2), (3, .int n3), (4, .int n4), (5, .int n5)]) hx hb dX2_add_56 hl (k := 6) rfl rfl (by decide) rfl (fun ls hl => ?_)
          refine lv_goto (tgt := 17) hx hb dX2_add_59 (by decide) ?_
          obtain rfl := Option.some.inj hf
          exact (hWW _ _ _ _ _).mp (ih _ _ _ _ _ _ _ _ _ _ _ _ _ _ _ _ _ hlp K _ _ ls hP hD hS (lv_sub hl [1, 2, 3, 4, 5, 6, 0] rfl))
  have hL128 : ∀ (n : Nat) (c_count : Int32) (c_customer : Nat → Int32) (c_product : Nat → Int32) (c_open : Nat → Int32) (c_due : Nat → Int32) (c_life : Nat → Int32) (c_byDue : Nat → Int32) (n7 : Int32) (c_had : Nat → Int32) (c_stamps : Nat → Int32) (e_c_had : Nat → Int32) (e_c_stamps : Nat → Int32), loop (fun z => f_X2_add_L128 c_count c_customer c_product c_open c_due c_life c_byDue z.1 z.2.1 z.2.2) n (n7, c_had, c_stamps) = some (e_c_had, e_c_stamps) → (∀ (H : Heap) (locs : List Loc) (ls : Array Slot), va_P D vwCl [oX2 a0 c_count c_gifts a_customer a_product a_open a_due a_life a_byDue a_had a_stamps, rI cI a_customer 40 c_customer, rI cI a_product 40 c_product, rI cI a_open 40 c_open, rI cI a_due 40 c_due, rI cI a_life 40 c_life, rI cI a_byDue 40 c_byDue, rI cI a_had 960 e_c_had, rI cI a_stamps 960 e_c_stamps] H → va_D A [oX2 a0 c_count c_gifts a_customer a_product a_open a_due a_life a_byDue a_had a_stamps, rI cI a_customer 40 c_customer, rI cI a_product 40 c_product, rI cI a_open 40 c_open, rI cI a_due 40 c_due, rI cI a_life 40 c_life, rI cI a_byDue 40 c_byDue, rI cI a_had 960 e_c_had, rI cI a_stamps 960 e_c_stamps] → va_S A s.heap H locs → lv_has ls 8 [(0, .ref a0)] → WW H locs 0 0 (F0 m 173 ls [])) → ∀ (H : Heap) (locs : List Loc) (ls : Array Slot), va_P D vwCl [oX2 a0 c_count c_gifts a_customer a_product a_open a_due a_life a_byDue a_had a_stamps, rI cI a_customer 40 c_customer, rI cI a_product 40 c_product, rI cI a_open 40 c_open, rI cI a_due 40 c_due, rI cI a_life 40 c_life, rI cI a_byDue 40 c_byDue, rI cI a_had 960 c_had, rI cI a_stamps 960 c_stamps] H → va_D A [oX2 a0 c_count c_gifts a_customer a_product a_open a_due a_life a_byDue a_had a_stamps, rI cI a_customer 40 c_customer, rI cI a_product 40 c_product, rI cI a_open 40 c_open, rI cI a_due 40 c_due, rI cI a_life 40 c_life, rI cI a_byDue 40 c_byDue, rI cI a_had 960 c_had, rI cI a_stamps 960 c_stamps] → va_S A s.heap H locs → lv_has ls 8 [(0, .ref a0), (7, .int n7)] → WW H locs 0 0 (F0 m 128 ls []) := by
    intro n
    induction n with
    | zero =>
      intro c_count c_customer c_product c_open c_due c_life c_byDue n7 c_had c_stamps e_c_had e_c_stamps hlp
      exact absurd hlp (by simp [loop])
    | succ n ih =>
      intro c_count c_customer c_product c_open c_due c_life c_byDue n7 c_had c_stamps e_c_had e_c_stamps hlp K H locs ls hP hD hS hl
      obtain ⟨x9, hf, hlp⟩ := loop_s hlp
      have hf : f_X2_add_L128 c_count c_customer c_product c_open c_due c_life c_byDue n7 c_had c_stamps = some x9 := hf
      unfold f_X2_add_L128 at hf
      refine (hWW _ _ _ _ _).mpr ?_
      refine lv_iload hx hb dX2_add_128 (lv_at hl 1 rfl) ?_
      refine lv_bipush (v := 24) hx hb dX2_add_130 (by decide) ?_
      refine lv_icmp_ge (tgt := 173) hx hb dX2_add_132 (by decide) (fun h18 => ?_) (fun h18 => ?_)
      · have hf := ipos h18 hf
        obtain rfl := Option.some.inj hf
        cases lpx_r hlp
        exact (hWW _ _ _ _ _).mp (K _ _ ls hP hD hS (lv_sub hl [0] rfl))
      · have hf := ineg h18 hf
        refine lv_aload_n hx hb dX2_add_135 rfl (lv_at hl 0 rfl) ?_
        refine va_get (D := D) (ci := 1) (v := .ref a_had) (C := RX2) (T := TX2) (N := 10) hx hb hts (fun w h => mb (iX2 w h)) hown hK hP 0 rfl rfl 8 (by decide) (hts _ (mb tb_138)) (fun _ h9 => h9) rfl dX2_add_136 ?_
        refine lv_aload_n hx hb dX2_add_139 rfl (lv_at hl 0 rfl) ?_
        refine va_get (D := D) (ci := 1) (v := .int c_count) (C := RX2) (T := TX2) (N := 10) hx hb hts (fun w h => mb (iX2 w h)) hown hK hP 0 rfl rfl 0 (by decide) (hts _ (mb tb_124)) (fun _ h9 => h9) rfl dX2_add_140 ?_
        refine lv_bipush (v := 24) hx hb dX2_add_143 (by decide) ?_
        refine lv_imul hx hb dX2_add_145 ?_
        refine lv_iload hx hb dX2_add_146 (lv_at hl 1 rfl) ?_
        refine lv_iadd hx hb dX2_add_148 ?_
        refine lv_iconst (v := 0) hx hb dX2_add_149 (by decide) ?_
        obtain ⟨h19, hf⟩ := ob_d hf
        refine va_iast hx hb hK hP hD hS 7 0 rfl rfl h19 dX2_add_150 (fun H locs hP hD hS => ?_)
        have hP : va_P D vwCl [oX2 a0 c_count c_gifts a_customer a_product a_open a_due a_life a_byDue a_had a_stamps, rI cI a_customer 40 c_customer, rI cI a_product 40 c_product, rI cI a_open 40 c_open, rI cI a_due 40 c_due, rI cI a_life 40 c_life, rI cI a_byDue 40 c_byDue, rI cI a_had 960 (upd c_had ((c_count * 24) + n7).toNatClampNeg 0), rI cI a_stamps 960 c_stamps] H := hP
        have hD : va_D A [oX2 a0 c_count c_gifts a_customer a_product a_open a_due a_life a_byDue a_had a_stamps, rI cI a_customer 40 c_customer, rI cI a_product 40 c_product, rI cI a_open 40 c_open, rI cI a_due 40 c_due, rI cI a_life 40 c_life, rI cI a_byDue 40 c_byDue, rI cI a_had 960 (upd c_had ((c_count * 24) + n7).toNatClampNeg 0), rI cI a_stamps 960 c_stamps] := hD
        refine lv_aload_n hx hb dX2_add_151 rfl (lv_at hl 0 rfl) ?_
        refine va_get (D := D) (ci := 1) (v := .ref a_stamps) (C := RX2) (T := TX2) (N := 10) hx hb hts (fun w h => mb (iX2 w h)) hown hK hP 0 rfl rfl 9 (by decide) (hts _ (mb tb_139)) (fun _ h9 => h9) rfl dX2_add_152 ?_
        refine lv_aload_n hx hb dX2_add_155 rfl (lv_at hl 0 rfl) ?_
        refine va_get (D := D) (ci := 1) (v := .int c_count) (C := RX2) (T := TX2) (N := 10) hx hb hts (fun w h => mb (iX2 w h)) hown hK hP 0 rfl rfl 0 (by decide) (hts _ (mb tb_124)) (fun _ h9 => h9) rfl dX2_add_156 ?_
        refine lv_bipush (v := 24) hx hb dX2_add_159 (by decide) ?_
        refine lv_imul hx hb dX2_add_161 ?_
        refine lv_iload hx hb dX2_add_162 (lv_at hl 1 rfl) ?_
        refine lv_iadd hx hb dX2_add_164 ?_
        refine lv_iconst (v := 0) hx hb dX2_add_165 (by decide) ?_
        obtain ⟨h20, hf⟩ := ob_d hf
        refine va_iast hx hb hK hP hD hS 8 0 rfl rfl h20 dX2_add_166 (fun H locs hP hD hS => ?_)
        have hP : va_P D vwCl [oX2 a0 c_count c_gifts a_customer a_product a_open a_due a_life a_byDue a_had a_stamps, rI cI a_customer 40 c_customer, rI cI a_product 40 c_product, rI cI a_open 40 c_open, rI cI a_due 40 c_due, rI cI a_life 40 c_life, rI cI a_byDue 40 c_byDue, rI cI a_had 960 (upd c_had ((c_count * 24) + n7).toNatClampNeg 0), rI cI a_stamps 960 (upd c_stamps ((c_count * 24) + n7).toNatClampNeg 0)] H := hP
        have hD : va_D A [oX2 a0 c_count c_gifts a_customer a_product a_open a_due a_life a_byDue a_had a_stamps, rI cI a_customer 40 c_customer, rI cI a_product 40 c_product, rI cI a_open 40 c_open, rI cI a_due 40 c_due, rI cI a_life 40 c_life, rI cI a_byDue 40 c_byDue, rI cI a_had 960 (upd c_had ((c_count * 24) + n7).toNatClampNeg 0), rI cI a_stamps 960 (upd c_stamps ((c_count * 24) + n7).toNatClampNeg 0)] := hD
        refine lv_iinc (v := (n7 + 1)) (lv' := [(7, .int (n7 + 1)), (0, .ref a0)]) hx hb dX2_add_167 hl (k := 1) rfl rfl (by decide) rfl (fun ls hl => ?_)
        refine lv_goto (tgt := 128) hx hb dX2_add_170 (by decide) ?_
        obtain rfl := Option.some.inj hf
        exact (hWW _ _ _ _ _).mp (ih _ _ _ _ _ _ _ _ _ _ _ _ hlp K _ _ ls hP hD hS (lv_sub hl [1, 0] rfl))
  refine (hWW _ _ _ _ _).mpr ?_
  refine lv_aload_n hx hb dX2_add_0 rfl (lv_at hl 0 rfl) ?_
  refine va_get (D := D) (ci := 1) (v := .int c_count) (C := RX2) (T := TX2) (N := 10) hx hb hts (fun w h => mb (iX2 w h)) hown hK hP 0 rfl rfl 0 (by decide) (hts _ (mb tb_124)) (fun _ h9 => h9) rfl dX2_add_1 ?_
  refine lv_bipush (v := 40) hx hb dX2_add_4 (by decide) ?_
  refine lv_icmp_lt (tgt := 11) hx hb dX2_add_6 (by decide) (fun h1 => ?_) (fun h1 => ?_)
  · have hf := ipos h1 hf
    refine lv_aload_n hx hb dX2_add_11 rfl (lv_at hl 0 rfl) ?_
    refine va_get (D := D) (ci := 1) (v := .int c_count) (C := RX2) (T := TX2) (N := 10) hx hb hts (fun w h => mb (iX2 w h)) hown hK hP 0 rfl rfl 0 (by decide) (hts _ (mb tb_124)) (fun _ h9 => h9) rfl dX2_add_12 ?_
    refine lv_istore (lv' := [(6, .int c_count), (0, .ref a0), (1, .int v1), (2, .int v2), (3, .int v3), (4, .int v4), (5, .int v5)]) hx hb dX2_add_15 hl (by decide) rfl (fun ls hl => ?_)
    obtain ⟨m10, c11, hc9, hf⟩ := ob2 hf
    refine (hWW _ _ _ _ _).mp (hL17 fu _ _ _ _ _ _ _ _ _ _ _ _ _ _ _ _ _ hc9 (fun H locs ls hP hD hS hl => ?_) _ _ ls hP hD hS (lv_sub hl [1, 2, 3, 4, 5, 6, 0] rfl))
    · refine (hWW _ _ _ _ _).mpr ?_
      refine lv_aload_n hx hb dX2_add_62 rfl (lv_at hl 0 rfl) ?_
      refine va_get (D := D) (ci := 1) (v := .ref a_byDue) (C := RX2) (T := TX2) (N := 10) hx hb hts (fun w h => mb (iX2 w h)) hown hK hP 0 rfl rfl 7 (by decide) (hts _ (mb tb_136)) (fun _ h9 => h9) rfl dX2_add_63 ?_
      refine lv_iload hx hb dX2_add_66 (lv_at hl 6 rfl) ?_
      refine lv_aload_n hx hb dX2_add_68 rfl (lv_at hl 0 rfl) ?_
      refine va_get (D := D) (ci := 1) (v := .int c_count) (C := RX2) (T := TX2) (N := 10) hx hb hts (fun w h => mb (iX2 w h)) hown hK hP 0 rfl rfl 0 (by decide) (hts _ (mb tb_124)) (fun _ h9 => h9) rfl dX2_add_69 ?_
      obtain ⟨h12, hf⟩ := ob_d hf
      refine va_iast hx hb hK hP hD hS 6 0 rfl rfl h12 dX2_add_72 (fun H locs hP hD hS => ?_)
      have hP : va_P D vwCl [oX2 a0 c_count c_gifts a_customer a_product a_open a_due a_life a_byDue a_had a_stamps, rI cI a_customer 40 c_customer, rI cI a_product 40 c_product, rI cI a_open 40 c_open, rI cI a_due 40 c_due, rI cI a_life 40 c_life, rI cI a_byDue 40 (upd c11 m10.toNatClampNeg c_count), rI cI a_had 960 c_had, rI cI a_stamps 960 c_stamps] H := hP
      have hD : va_D A [oX2 a0 c_count c_gifts a_customer a_product a_open a_due a_life a_byDue a_had a_stamps, rI cI a_customer 40 c_customer, rI cI a_product 40 c_product, rI cI a_open 40 c_open, rI cI a_due 40 c_due, rI cI a_life 40 c_life, rI cI a_byDue 40 (upd c11 m10.toNatClampNeg c_count), rI cI a_had 960 c_had, rI cI a_stamps 960 c_stamps] := hD
      refine lv_aload_n hx hb dX2_add_73 rfl (lv_at hl 0 rfl) ?_
      refine va_get (D := D) (ci := 1) (v := .ref a_customer) (C := RX2) (T := TX2) (N := 10) hx hb hts (fun w h => mb (iX2 w h)) hown hK hP 0 rfl rfl 2 (by decide) (hts _ (mb tb_127)) (fun _ h9 => h9) rfl dX2_add_74 ?_
      refine lv_aload_n hx hb dX2_add_77 rfl (lv_at hl 0 rfl) ?_
      refine va_get (D := D) (ci := 1) (v := .int c_count) (C := RX2) (T := TX2) (N := 10) hx hb hts (fun w h => mb (iX2 w h)) hown hK hP 0 rfl rfl 0 (by decide) (hts _ (mb tb_124)) (fun _ h9 => h9) rfl dX2_add_78 ?_
      refine lv_iload_n hx hb dX2_add_81 rfl (lv_at hl 1 rfl) ?_
      obtain ⟨h13, hf⟩ := ob_d hf
      refine va_iast hx hb hK hP hD hS 1 0 rfl rfl h13 dX2_add_82 (fun H locs hP hD hS => ?_)
      have hP : va_P D vwCl [oX2 a0 c_count c_gifts a_customer a_product a_open a_due a_life a_byDue a_had a_stamps, rI cI a_customer 40 (upd c_customer c_count.toNatClampNeg v1), rI cI a_product 40 c_product, rI cI a_open 40 c_open, rI cI a_due 40 c_due, rI cI a_life 40 c_life, rI cI a_byDue 40 (upd c11 m10.toNatClampNeg c_count), rI cI a_had 960 c_had, rI cI a_stamps 960 c_stamps] H := hP
      have hD : va_D A [oX2 a0 c_count c_gifts a_customer a_product a_open a_due a_life a_byDue a_had a_stamps, rI cI a_customer 40 (upd c_customer c_count.toNatClampNeg v1), rI cI a_product 40 c_product, rI cI a_open 40 c_open, rI cI a_due 40 c_due, rI cI a_life 40 c_life, rI cI a_byDue 40 (upd c11 m10.toNatClampNeg c_count), rI cI a_had 960 c_had, rI cI a_stamps 960 c_stamps] := hD
      refine lv_aload_n hx hb dX2_add_83 rfl (lv_at hl 0 rfl) ?_
      refine va_get (D := D) (ci := 1) (v := .ref a_product) (C := RX2) (T := TX2) (N := 10) hx hb hts (fun w h => mb (iX2 w h)) hown hK hP 0 rfl rfl 3 (by decide) (hts _ (mb tb_129)) (fun _ h9 => h9) rfl dX2_add_84 ?_
      refine lv_aload_n hx hb dX2_add_87 rfl (lv_at hl 0 rfl) ?_
      refine va_get (D := D) (ci := 1) (v := .int c_count) (C := RX2) (T := TX2) (N := 10) hx hb hts (fun w h => mb (iX2 w h)) hown hK hP 0 rfl rfl 0 (by decide) (hts _ (mb tb_124)) (fun _ h9 => h9) rfl dX2_add_88 ?_
      refine lv_iload_n hx hb dX2_add_91 rfl (lv_at hl 2 rfl) ?_
      obtain ⟨h14, hf⟩ := ob_d hf
      refine va_iast hx hb hK hP hD hS 2 0 rfl rfl h14 dX2_add_92 (fun H locs hP hD hS => ?_)
      have hP : va_P D vwCl [oX2 a0 c_count c_gifts a_customer a_product a_open a_due a_life a_byDue a_had a_stamps, rI cI a_customer 40 (upd c_customer c_count.toNatClampNeg v1), rI cI a_product 40 (upd c_product c_count.toNatClampNeg v2), rI cI a_open 40 c_open, rI cI a_due 40 c_due, rI cI a_life 40 c_life, rI cI a_byDue 40 (upd c11 m10.toNatClampNeg c_count), rI cI a_had 960 c_had, rI cI a_stamps 960 c_stamps] H := hP
      have hD : va_D A [oX2 a0 c_count c_gifts a_customer a_product a_open a_due a_life a_byDue a_had a_stamps, rI cI a_customer 40 (upd c_customer c_count.toNatClampNeg v1), rI cI a_product 40 (upd c_product c_count.toNatClampNeg v2), rI cI a_open 40 c_open, rI cI a_due 40 c_due, rI cI a_life 40 c_life, rI cI a_byDue 40 (upd c11 m10.toNatClampNeg c_count), rI cI a_had 960 c_had, rI cI a_stamps 960 c_stamps] := hD
      refine lv_aload_n hx hb dX2_add_93 rfl (lv_at hl 0 rfl) ?_
      refine va_get (D := D) (ci := 1) (v := .ref a_open) (C := RX2) (T := TX2) (N := 10) hx hb hts (fun w h => mb (iX2 w h)) hown hK hP 0 rfl rfl 4 (by decide) (hts _ (mb tb_131)) (fun _ h9 => h9) rfl dX2_add_94 ?_
      refine lv_aload_n hx hb dX2_add_97 rfl (lv_at hl 0 rfl) ?_
      refine va_get (D := D) (ci := 1) (v := .int c_count) (C := RX2) (T := TX2) (N := 10) hx hb hts (fun w h => mb (iX2 w h)) hown hK hP 0 rfl rfl 0 (by decide) (hts _ (mb tb_124)) (fun _ h9 => h9) rfl dX2_add_98 ?_
      refine lv_iload_n hx hb dX2_add_101 rfl (lv_at hl 3 rfl) ?_
      obtain ⟨h15, hf⟩ := ob_d hf
      refine va_iast hx hb hK hP hD hS 3 0 rfl rfl h15 dX2_add_102 (fun H locs hP hD hS => ?_)
      have hP : va_P D vwCl [oX2 a0 c_count c_gifts a_customer a_product a_open a_due a_life a_byDue a_had a_stamps, rI cI a_customer 40 (upd c_customer c_count.toNatClampNeg v1), rI cI a_product 40 (upd c_product c_count.toNatClampNeg v2), rI cI a_open 40 (upd c_open c_count.toNatClampNeg v3), rI cI a_due 40 c_due, rI cI a_life 40 c_life, rI cI a_byDue 40 (upd c11 m10.toNatClampNeg c_count), rI cI a_had 960 c_had, rI cI a_stamps 960 c_stamps] H := hP
      have hD : va_D A [oX2 a0 c_count c_gifts a_customer a_product a_open a_due a_life a_byDue a_had a_stamps, rI cI a_customer 40 (upd c_customer c_count.toNatClampNeg v1), rI cI a_product 40 (upd c_product c_count.toNatClampNeg v2), rI cI a_open 40 (upd c_open c_count.toNatClampNeg v3), rI cI a_due 40 c_due, rI cI a_life 40 c_life, rI cI a_byDue 40 (upd c11 m10.toNatClampNeg c_count), rI cI a_had 960 c_had, rI cI a_stamps 960 c_stamps] := hD
      refine lv_aload_n hx hb dX2_add_103 rfl (lv_at hl 0 rfl) ?_
      refine va_get (D := D) (ci := 1) (v := .ref a_due) (C := RX2) (T := TX2) (N := 10) hx hb hts (fun w h => mb (iX2 w h)) hown hK hP 0 rfl rfl 5 (by decide) (hts _ (mb tb_133)) (fun _ h9 => h9) rfl dX2_add_104 ?_
      refine lv_aload_n hx hb dX2_add_107 rfl (lv_at hl 0 rfl) ?_
      refine va_get (D := D) (ci := 1) (v := .int c_count) (C := RX2) (T := TX2) (N := 10) hx hb hts (fun w h => mb (iX2 w h)) hown hK hP 0 rfl rfl 0 (by decide) (hts _ (mb tb_124)) (fun _ h9 => h9) rfl dX2_add_108 ?_
      refine lv_iload hx hb dX2_add_111 (lv_at hl 4 rfl) ?_
      obtain ⟨h16, hf⟩ := ob_d hf
      refine va_iast hx hb hK hP hD hS 4 0 rfl rfl h16 dX2_add_113 (fun H locs hP hD hS => ?_)
      have hP : va_P D vwCl [oX2 a0 c_count c_gifts a_customer a_product a_open a_due a_life a_byDue a_had a_stamps, rI cI a_customer 40 (upd c_customer c_count.toNatClampNeg v1), rI cI a_product 40 (upd c_product c_count.toNatClampNeg v2), rI cI a_open 40 (upd c_open c_count.toNatClampNeg v3), rI cI a_due 40 (upd c_due c_count.toNatClampNeg v4), rI cI a_life 40 c_life, rI cI a_byDue 40 (upd c11 m10.toNatClampNeg c_count), rI cI a_had 960 c_had, rI cI a_stamps 960 c_stamps] H := hP
      have hD : va_D A [oX2 a0 c_count c_gifts a_customer a_product a_open a_due a_life a_byDue a_had a_stamps, rI cI a_customer 40 (upd c_customer c_count.toNatClampNeg v1), rI cI a_product 40 (upd c_product c_count.toNatClampNeg v2), rI cI a_open 40 (upd c_open c_count.toNatClampNeg v3), rI cI a_due 40 (upd c_due c_count.toNatClampNeg v4), rI cI a_life 40 c_life, rI cI a_byDue 40 (upd c11 m10.toNatClampNeg c_count), rI cI a_had 960 c_had, rI cI a_stamps 960 c_stamps] := hD
      refine lv_aload_n hx hb dX2_add_114 rfl (lv_at hl 0 rfl) ?_
      refine va_get (D := D) (ci := 1) (v := .ref a_life) (C := RX2) (T := TX2) (N := 10) hx hb hts (fun w h => mb (iX2 w h)) hown hK hP 0 rfl rfl 6 (by decide) (hts _ (mb tb_135)) (fun _ h9 => h9) rfl dX2_add_115 ?_
      refine lv_aload_n hx hb dX2_add_118 rfl (lv_at hl 0 rfl) ?_
      refine va_get (D := D) (ci := 1) (v := .int c_count) (C := RX2) (T := TX2) (N := 10) hx hb hts (fun w h => mb (iX2 w h)) hown hK hP 0 rfl rfl 0 (by decide) (hts _ (mb tb_124)) (fun _ h9 => h9) rfl dX2_add_119 ?_
      refine lv_iload hx hb dX2_add_122 (lv_at hl 5 rfl) ?_
      obtain ⟨h17, hf⟩ := ob_d hf
      refine va_iast hx hb hK hP hD hS 5 0 rfl rfl h17 dX2_add_124 (fun H locs hP hD hS => ?_)
      have hP : va_P D vwCl [oX2 a0 c_count c_gifts a_customer a_product a_open a_due a_life a_byDue a_had a_stamps, rI cI a_customer 40 (upd c_customer c_count.toNatClampNeg v1), rI cI a_product 40 (upd c_product c_count.toNatClampNeg v2), rI cI a_open 40 (upd c_open c_count.toNatClampNeg v3), rI cI a_due 40 (upd c_due c_count.toNatClampNeg v4), rI cI a_life 40 (upd c_life c_count.toNatClampNeg v5), rI cI a_byDue 40 (upd c11 m10.toNatClampNeg c_count), rI cI a_had 960 c_had, rI cI a_stamps 960 c_stamps] H := hP
      have hD : va_D A [oX2 a0 c_count c_gifts a_customer a_product a_open a_due a_life a_byDue a_had a_stamps, rI cI a_customer 40 (upd c_customer c_count.toNatClampNeg v1), rI cI a_product 40 (upd c_product c_count.toNatClampNeg v2), rI cI a_open 40 (upd c_open c_count.toNatClampNeg v3), rI cI a_due 40 (upd c_due c_count.toNatClampNeg v4), rI cI a_life 40 (upd c_life c_count.toNatClampNeg v5), rI cI a_byDue 40 (upd c11 m10.toNatClampNeg c_count), rI cI a_had 960 c_had, rI cI a_stamps 960 c_stamps] := hD
      refine lv_iconst (v := 0) hx hb dX2_add_125 (by decide) ?_
      refine lv_istore (lv' := [(7, .int 0), (0, .ref a0), (1, .int v1), (2, .int v2), (3, .int v3), (4, .int v4), (5, .int v5), (6, .int m10)]) hx hb dX2_add_126 hl (by decide) rfl (fun ls hl => ?_)
      obtain ⟨c22, c23, hc21, hf⟩ := ob2 hf
      refine (hWW _ _ _ _ _).mp (hL128 fu _ _ _ _ _ _ _ _ _ _ _ _ hc21 (fun H locs ls hP hD hS hl => ?_) _ _ ls hP hD hS (lv_sub hl [1, 0] rfl))
      · refine (hWW _ _ _ _ _).mpr ?_
        refine lv_aload_n hx hb dX2_add_173 rfl (lv_at hl 0 rfl) ?_
        refine lv_dup hx hb dX2_add_174 rfl ?_
        refine va_get (D := D) (ci := 1) (v := .int c_count) (C := RX2) (T := TX2) (N := 10) hx hb hts (fun w h => mb (iX2 w h)) hown hK hP 0 rfl rfl 0 (by decide) (hts _ (mb tb_124)) (fun _ h9 => h9) rfl dX2_add_175 ?_
        refine lv_iconst (v := 1) hx hb dX2_add_178 (by decide) ?_
        refine lv_iadd hx hb dX2_add_179 ?_
        refine va_put (D := D) (ci := 1) (v := .int (c_count + 1)) (ty := .int) (C := RX2) (T := TX2) (N := 10) hx hb hts (fun w h => mb (iX2 w h)) tyX2 tyX2_ok nmX2 hown hK hP hD hS 0 rfl rfl 0 (by decide) (hts _ (mb tb_124)) (fun _ h9 => h9) rfl (by decide +kernel) rfl rfl (Nat.le_of_ble_eq_true rfl) dX2_add_180 (fun H locs hP hD hS => ?_)
        have hP : va_P D vwCl [oX2 a0 (c_count + 1) c_gifts a_customer a_product a_open a_due a_life a_byDue a_had a_stamps, rI cI a_customer 40 (upd c_customer c_count.toNatClampNeg v1), rI cI a_product 40 (upd c_product c_count.toNatClampNeg v2), rI cI a_open 40 (upd c_open c_count.toNatClampNeg v3), rI cI a_due 40 (upd c_due c_count.toNatClampNeg v4), rI cI a_life 40 (upd c_life c_count.toNatClampNeg v5), rI cI a_byDue 40 (upd c11 m10.toNatClampNeg c_count), rI cI a_had 960 c22, rI cI a_stamps 960 c23] H := hP
        have hD : va_D A [oX2 a0 (c_count + 1) c_gifts a_customer a_product a_open a_due a_life a_byDue a_had a_stamps, rI cI a_customer 40 (upd c_customer c_count.toNatClampNeg v1), rI cI a_product 40 (upd c_product c_count.toNatClampNeg v2), rI cI a_open 40 (upd c_open c_count.toNatClampNeg v3), rI cI a_due 40 (upd c_due c_count.toNatClampNeg v4), rI cI a_life 40 (upd c_life c_count.toNatClampNeg v5), rI cI a_byDue 40 (upd c11 m10.toNatClampNeg c_count), rI cI a_had 960 c22, rI cI a_stamps 960 c23] := hD
        refine lv_aload_n hx hb dX2_add_183 rfl (lv_at hl 0 rfl) ?_
        refine va_get (D := D) (ci := 1) (v := .int (c_count + 1)) (C := RX2) (T := TX2) (N := 10) hx hb hts (fun w h => mb (iX2 w h)) hown hK hP 0 rfl rfl 0 (by decide) (hts _ (mb tb_124)) (fun _ h9 => h9) rfl dX2_add_184 ?_
        refine lv_iconst (v := 1) hx hb dX2_add_187 (by decide) ?_
        refine lv_isub hx hb dX2_add_188 ?_
        cases hf
        refine W.widen (k := 0) (n := 0) (Nat.le_of_ble_eq_true rfl) (Nat.le_of_ble_eq_true rfl) ?_
        exact W.iret hx hb hr (fun t ht hW => ⟨⟨_, (), rfl, rfl, (by show va_P D vwCl _ t.heap; rw [ht]; exact hP)⟩, hS.F ht⟩) hS.2.2 dX2_add_189
  · have hf := ineg h1 hf
    refine lv_iconst (v := (-1)) hx hb dX2_add_9 (by decide) ?_
    cases hf
    refine W.widen (k := 0) (n := 0) (Nat.le_of_ble_eq_true rfl) (Nat.le_of_ble_eq_true rfl) ?_
    exact W.iret hx hb hr (fun t ht hW => ⟨⟨_, (), rfl, rfl, (by show va_P D vwCl _ t.heap; rw [ht]; exact hP)⟩, hS.F ht⟩) hS.2.2 dX2_add_10
def f_X2_piecesOf (v1 : Int32) (v2 : Int32) (c_count : Int32) (c_had : Nat → Int32) : Option (Int32) :=
  bnd1 (f_X2_isCell v1 v2 c_count) (fun r1 =>
  ((if r1 = 0 then some 0
  else gd ((v1 * 24) + v2) 960 (some (c_had ((v1 * 24) + v2).toNatClampNeg)))))
set_option maxHeartbeats 4000000 in
set_option maxRecDepth 100000 in
theorem k_X2_piecesOf (l : Launch) (hl0 : l.stackTraces = false) (D : va_G) (cI cJ cZ cS : ClassId) (B0 : Nat) (H0 : Heap) (a0 a_customer a_product a_open a_due a_life a_byDue a_had a_stamps : Nat) (c_count : Int32) (c_gifts : Int32) (c_had : Nat → Int32) (v1 : Int32) (v2 : Int32) (r9 : Int32)  (hf : f_X2_piecesOf v1 v2 c_count c_had = some r9) : Met l yX2_piecesOf (wz yX2_piecesOf cX2_piecesOf 3 (some .int)) ({ frames := 2, cells := 0, slots := 0, locals := 43 }) (va_Pc [.ref a0, .int v1, .int v2] (rp D cI cJ cZ cS B0 [oX2 a0 c_count c_gifts a_customer a_product a_open a_due a_life a_byDue a_had a_stamps, rI cI a_had 960 c_had] H0)) (va_Qi (fun (r2 : Int32) (_ : Unit) => r2 = r9) (fun _ t => t.heap = H0) (fun q => H0.size ≤ q)) 0 0 (fun q => H0.size ≤ q) := by
  refine Met.ofW (cc := cX2_piecesOf) (maxL := 3) (ret := (some .int)) (by decide) rfl ?_
  intro p e s m args below meth c s₁ B hml hv
  obtain ⟨rfl, hH, hP, hK, hB0, hE⟩ := hv
  subst hH
  have hx := B.exec
  have hb := B.bytes
  have hr := B.returns
  have hts := atoms_spec (ws := (wz yX2_piecesOf cX2_piecesOf 3 (some .int))) B.pre
  have hown : s.vm.findClass RX2 = some m.cls := findClass_of_methodNamed B.named
  have hlocks := B.notSynchronized
  have hAB : ∀ q : Nat, s.heap.size ≤ q → B0 ≤ q := fun q h => Nat.le_trans hB0 h
  have hA : ∀ q : Nat, s.heap.size ≤ q → s.heap.size ≤ q := fun _ h => h
  have hS : va_S (fun q => s.heap.size ≤ q) s.heap s.heap [] := va_S.rf
  have hBn := fun (H : Heap) (locs : List Loc) (h : va_S (fun q => s.heap.size ≤ q) s.heap H locs) => Nat.le_trans hB0 h.1
  have hEn := fun (H : Heap) (locs : List Loc) (h : va_S (fun q => s.heap.size ≤ q) s.heap H locs) => gE_now hE h hAB
  have hl := lv_entry ([.ref a0, .int v1, .int v2]) (n := 3) (Nat.le_of_ble_eq_true rfl)
  rw [lg_entry_eq]
  generalize (lg_sl ([.ref a0, .int v1, .int v2]) ++ List.replicate (3 - (lg_sl ([.ref a0, .int v1, .int v2])).length) Slot.unset).toArray = ls at hl ⊢
  have hl : lv_has ls 3 [(0, .ref a0), (1, .int v1), (2, .int v2)] := hl
  obtain ⟨H, hHe⟩ : ∃ H : Heap, H = s.heap := ⟨_, rfl⟩
  have hP : va_P D vwCl [oX2 a0 c_count c_gifts a_customer a_product a_open a_due a_life a_byDue a_had a_stamps, rI cI a_had 960 c_had] H := by rw [hHe]; exact hP
  have hS : va_S (fun q => s.heap.size ≤ q) s.heap H [] := by rw [hHe]; exact hS
  refine W_heq hHe ?_
  unfold f_X2_piecesOf at hf
  refine lv_aload_n hx hb dX2_piecesOf_0 rfl (lv_at hl 0 rfl) ?_
  refine lv_iload_n hx hb dX2_piecesOf_1 rfl (lv_at hl 1 rfl) ?_
  refine lv_iload_n hx hb dX2_piecesOf_2 rfl (lv_at hl 2 rfl) ?_
  obtain ⟨r1, hc2, hf⟩ := ob1 hf
  refine ro_calli (r := r1) (va_runV (As := [.int v1, .int v2]) (rest := []) ⟨hx, hb, hml, hown, hts⟩ (k_X2_isCell l hl0 D cI cJ cZ cS B0 H a0 a_customer a_product a_open a_due a_life a_byDue a_had a_stamps c_count c_gifts v1 v2 r1 hc2) (cwV 2 hts (gV tb_650 tb_652 ts_16 tb_5 tb_653) rfl rfl rfl (by decide +kernel) ⟨Nat.le_of_ble_eq_true rfl, Nat.le_of_ble_eq_true rfl⟩) ⟨rp_blind, va_recv hK hP (ci := 1) (q0 := 0) rfl rfl, rp_pre (hP.sub [0] rfl) hK (hBn _ _ hS) (hEn _ _ hS)⟩ rfl rfl hl.1 rfl (lv_room (Nat.le_of_ble_eq_true rfl)) dX2_piecesOf_3 ⟨Nat.le_of_ble_eq_true rfl, Nat.le_of_ble_eq_true rfl⟩) ?_
  refine lv_if_eq (tgt := 23) hx hb dX2_piecesOf_6 (by decide) (fun h3 => ?_) (fun h3 => ?_)
  · have hf := ipos h3 hf
    refine lv_iconst (v := 0) hx hb dX2_piecesOf_23 (by decide) ?_
    cases hf
    exact W.iret hx hb hr (fun t ht hW => ⟨⟨_, (), rfl, rfl, (ht.trans hHe)⟩, hS.F ht⟩) hS.2.2 dX2_piecesOf_24
  · have hf := ineg h3 hf
    refine lv_aload_n hx hb dX2_piecesOf_9 rfl (lv_at hl 0 rfl) ?_
    refine va_get (D := D) (ci := 1) (v := .ref a_had) (C := RX2) (T := TX2) (N := 10) hx hb hts (fun w h => mb (iX2 w h)) hown hK hP 0 rfl rfl 8 (by decide) (hts _ (mb tb_138)) (fun _ h9 => h9) rfl dX2_piecesOf_10 ?_
    refine lv_iload_n hx hb dX2_piecesOf_13 rfl (lv_at hl 1 rfl) ?_
    refine lv_bipush (v := 24) hx hb dX2_piecesOf_14 (by decide) ?_
    refine lv_imul hx hb dX2_piecesOf_16 ?_
    refine lv_iload_n hx hb dX2_piecesOf_17 rfl (lv_at hl 2 rfl) ?_
    refine lv_iadd hx hb dX2_piecesOf_18 ?_
    obtain ⟨h4, hf⟩ := ob_d hf
    refine va_iald hx hb hK hP 1 0 rfl rfl h4 dX2_piecesOf_19 ?_
    refine lv_goto (tgt := 24) hx hb dX2_piecesOf_20 (by decide) ?_
    cases hf
    exact W.iret hx hb hr (fun t ht hW => ⟨⟨_, (), rfl, rfl, (ht.trans hHe)⟩, hS.F ht⟩) hS.2.2 dX2_piecesOf_24
def f_X2_stampOf (v1 : Int32) (v2 : Int32) (c_count : Int32) (c_stamps : Nat → Int32) : Option (Int32) :=
  bnd1 (f_X2_isCell v1 v2 c_count) (fun r1 =>
  ((if r1 = 0 then some 0
  else gd ((v1 * 24) + v2) 960 (some (c_stamps ((v1 * 24) + v2).toNatClampNeg)))))
set_option maxHeartbeats 4000000 in
set_option maxRecDepth 100000 in
theorem k_X2_stampOf (l : Launch) (hl0 : l.stackTraces = false) (D : va_G) (cI cJ cZ cS : ClassId) (B0 : Nat) (H0 : Heap) (a0 a_customer a_product a_open a_due a_life a_byDue a_had a_stamps : Nat) (c_count : Int32) (c_gifts : Int32) (c_stamps : Nat → Int32) (v1 : Int32) (v2 : Int32) (r9 : Int32)  (hf : f_X2_stampOf v1 v2 c_count c_stamps = some r9) : Met l yX2_stampOf (wz yX2_stampOf cX2_stampOf 3 (some .int)) ({ frames := 2, cells := 0, slots := 0, locals := 43 }) (va_Pc [.ref a0, .int v1, .int v2] (rp D cI cJ cZ cS B0 [oX2 a0 c_count c_gifts a_customer a_product a_open a_due a_life a_byDue a_had a_stamps, rI cI a_stamps 960 c_stamps] H0)) (va_Qi (fun (r2 : Int32) (_ : Unit) => r2 = r9) (fun _ t => t.heap = H0) (fun q => H0.size ≤ q)) 0 0 (fun q => H0.size ≤ q) := by
  refine Met.ofW (cc := cX2_stampOf) (maxL := 3) (ret := (some .int)) (by decide) rfl ?_
  intro p e s m args below meth c s₁ B hml hv
  obtain ⟨rfl, hH, hP, hK, hB0, hE⟩ := hv
  subst hH
  have hx := B.exec
  have hb := B.bytes
  have hr := B.returns
  have hts := atoms_spec (ws := (wz yX2_stampOf cX2_stampOf 3 (some .int))) B.pre
  have hown : s.vm.findClass RX2 = some m.cls := findClass_of_methodNamed B.named
  have hlocks := B.notSynchronized
  have hAB : ∀ q : Nat, s.heap.size ≤ q → B0 ≤ q := fun q h => Nat.le_trans hB0 h
  have hA : ∀ q : Nat, s.heap.size ≤ q → s.heap.size ≤ q := fun _ h => h
  have hS : va_S (fun q => s.heap.size ≤ q) s.heap s.heap [] := va_S.rf
  have hBn := fun (H : Heap) (locs : List Loc) (h : va_S (fun q => s.heap.size ≤ q) s.heap H locs) => Nat.le_trans hB0 h.1
  have hEn := fun (H : Heap) (locs : List Loc) (h : va_S (fun q => s.heap.size ≤ q) s.heap H locs) => gE_now hE h hAB
  have hl := lv_entry ([.ref a0, .int v1, .int v2]) (n := 3) (Nat.le_of_ble_eq_true rfl)
  rw [lg_entry_eq]
  generalize (lg_sl ([.ref a0, .int v1, .int v2]) ++ List.replicate (3 - (lg_sl ([.ref a0, .int v1, .int v2])).length) Slot.unset).toArray = ls at hl ⊢
  have hl : lv_has ls 3 [(0, .ref a0), (1, .int v1), (2, .int v2)] := hl
  obtain ⟨H, hHe⟩ : ∃ H : Heap, H = s.heap := ⟨_, rfl⟩
  have hP : va_P D vwCl [oX2 a0 c_count c_gifts a_customer a_product a_open a_due a_life a_byDue a_had a_stamps, rI cI a_stamps 960 c_stamps] H := by rw [hHe]; exact hP
  have hS : va_S (fun q => s.heap.size ≤ q) s.heap H [] := by rw [hHe]; exact hS
  refine W_heq hHe ?_
  unfold f_X2_stampOf at hf
  refine lv_aload_n hx hb dX2_stampOf_0 rfl (lv_at hl 0 rfl) ?_
  refine lv_iload_n hx hb dX2_stampOf_1 rfl (lv_at hl 1 rfl) ?_
  refine lv_iload_n hx hb dX2_stampOf_2 rfl (lv_at hl 2 rfl) ?_
  obtain ⟨r1, hc2, hf⟩ := ob1 hf
  refine ro_calli (r := r1) (va_runV (As := [.int v1, .int v2]) (rest := []) ⟨hx, hb, hml, hown, hts⟩ (k_X2_isCell l hl0 D cI cJ cZ cS B0 H a0 a_customer a_product a_open a_due a_life a_byDue a_had a_stamps c_count c_gifts v1 v2 r1 hc2) (cwV 2 hts (gV tb_650 tb_652 ts_16 tb_5 tb_653) rfl rfl rfl (by decide +kernel) ⟨Nat.le_of_ble_eq_true rfl, Nat.le_of_ble_eq_true rfl⟩) ⟨rp_blind, va_recv hK hP (ci := 1) (q0 := 0) rfl rfl, rp_pre (hP.sub [0] rfl) hK (hBn _ _ hS) (hEn _ _ hS)⟩ rfl rfl hl.1 rfl (lv_room (Nat.le_of_ble_eq_true rfl)) dX2_stampOf_3 ⟨Nat.le_of_ble_eq_true rfl, Nat.le_of_ble_eq_true rfl⟩) ?_
  refine lv_if_eq (tgt := 23) hx hb dX2_stampOf_6 (by decide) (fun h3 => ?_) (fun h3 => ?_)
  · have hf := ipos h3 hf
    refine lv_iconst (v := 0) hx hb dX2_stampOf_23 (by decide) ?_
    cases hf
    exact W.iret hx hb hr (fun t ht hW => ⟨⟨_, (), rfl, rfl, (ht.trans hHe)⟩, hS.F ht⟩) hS.2.2 dX2_stampOf_24
  · have hf := ineg h3 hf
    refine lv_aload_n hx hb dX2_stampOf_9 rfl (lv_at hl 0 rfl) ?_
    refine va_get (D := D) (ci := 1) (v := .ref a_stamps) (C := RX2) (T := TX2) (N := 10) hx hb hts (fun w h => mb (iX2 w h)) hown hK hP 0 rfl rfl 9 (by decide) (hts _ (mb tb_139)) (fun _ h9 => h9) rfl dX2_stampOf_10 ?_
    refine lv_iload_n hx hb dX2_stampOf_13 rfl (lv_at hl 1 rfl) ?_
    refine lv_bipush (v := 24) hx hb dX2_stampOf_14 (by decide) ?_
    refine lv_imul hx hb dX2_stampOf_16 ?_
    refine lv_iload_n hx hb dX2_stampOf_17 rfl (lv_at hl 2 rfl) ?_
    refine lv_iadd hx hb dX2_stampOf_18 ?_
    obtain ⟨h4, hf⟩ := ob_d hf
    refine va_iald hx hb hK hP 1 0 rfl rfl h4 dX2_stampOf_19 ?_
    refine lv_goto (tgt := 24) hx hb dX2_stampOf_20 (by decide) ?_
    cases hf
    exact W.iret hx hb hr (fun t ht hW => ⟨⟨_, (), rfl, rfl, (ht.trans hHe)⟩, hS.F ht⟩) hS.2.2 dX2_stampOf_24
def f_X2_piecesAt_L4 (n1 : Int32) (c_count : Int32) (c_had : Nat → Int32) (n2 : Int32) (n3 : Int32) : Option ((Int32 × Int32) ⊕ Int32) :=
  (if 24 ≤ n3 then some (.inr n2)
  else bnd1 (f_X2_piecesOf n1 n3 c_count c_had) (fun r2 =>
  (some (.inl (n2 + r2, n3 + 1)))))
def f_X2_piecesAt (v1 : Int32) (c_count : Int32) (c_had : Nat → Int32) : Option (Int32) :=
  (bnd1 (loop (fun z => f_X2_piecesAt_L4 v1 c_count c_had z.1 z.2) fu (0, 0)) fun m5 =>
  some m5)
set_option maxHeartbeats 4000000 in
set_option maxRecDepth 100000 in
theorem k_X2_piecesAt (l : Launch) (hl0 : l.stackTraces = false) (D : va_G) (cI cJ cZ cS : ClassId) (B0 : Nat) (H0 : Heap) (a0 a_customer a_product a_open a_due a_life a_byDue a_had a_stamps : Nat) (c_count : Int32) (c_gifts : Int32) (c_had : Nat → Int32) (v1 : Int32) (r9 : Int32)  (hf : f_X2_piecesAt v1 c_count c_had = some r9) : Met l yX2_piecesAt (wz yX2_piecesAt cX2_piecesAt 4 (some .int)) ({ frames := 3, cells := 0, slots := 0, locals := 65 }) (va_Pc [.ref a0, .int v1] (rp D cI cJ cZ cS B0 [oX2 a0 c_count c_gifts a_customer a_product a_open a_due a_life a_byDue a_had a_stamps, rI cI a_had 960 c_had] H0)) (va_Qi (fun (r2 : Int32) (_ : Unit) => r2 = r9) (fun _ t => t.heap = H0) (fun q => H0.size ≤ q)) 0 0 (fun q => H0.size ≤ q) := by
  refine Met.ofW (cc := cX2_piecesAt) (maxL := 4) (ret := (some .int)) (by decide) rfl ?_
  intro p e s m args below meth c s₁ B hml hv
  obtain ⟨rfl, hH, hP, hK, hB0, hE⟩ := hv
  subst hH
  have hx := B.exec
  have hb := B.bytes
  have hr := B.returns
  have hts := atoms_spec (ws := (wz yX2_piecesAt cX2_piecesAt 4 (some .int))) B.pre
  have hown : s.vm.findClass RX2 = some m.cls := findClass_of_methodNamed B.named
  have hlocks := B.notSynchronized
  have hAB : ∀ q : Nat, s.heap.size ≤ q → B0 ≤ q := fun q h => Nat.le_trans hB0 h
  have hA : ∀ q : Nat, s.heap.size ≤ q → s.heap.size ≤ q := fun _ h => h
  have hS : va_S (fun q => s.heap.size ≤ q) s.heap s.heap [] := va_S.rf
  have hBn := fun (H : Heap) (locs : List Loc) (h : va_S (fun q => s.heap.size ≤ q) s.heap H locs) => Nat.le_trans hB0 h.1
  have hEn := fun (H : Heap) (locs : List Loc) (h : va_S (fun q => s.heap.size ≤ q) s.heap H locs) => gE_now hE h hAB
  have hl := lv_entry ([.ref a0, .int v1]) (n := 4) (Nat.le_of_ble_eq_true rfl)
  rw [lg_entry_eq]
  generalize (lg_sl ([.ref a0, .int v1]) ++ List.replicate (4 - (lg_sl ([.ref a0, .int v1])).length) Slot.unset).toArray = ls at hl ⊢
  have hl : lv_has ls 4 [(0, .ref a0), (1, .int v1)] := hl
  obtain ⟨H, hHe⟩ : ∃ H : Heap, H = s.heap := ⟨_, rfl⟩
  have hP : va_P D vwCl [oX2 a0 c_count c_gifts a_customer a_product a_open a_due a_life a_byDue a_had a_stamps, rI cI a_had 960 c_had] H := by rw [hHe]; exact hP
  have hS : va_S (fun q => s.heap.size ≤ q) s.heap H [] := by rw [hHe]; exact hS
  refine W_heq hHe ?_
  unfold f_X2_piecesAt at hf
  refine gen_go (fun WW hWW => ?_)
  have hL4 : ∀ (n : Nat) (n1 : Int32) (n2 : Int32) (n3 : Int32) (e2 : Int32), loop (fun z => f_X2_piecesAt_L4 n1 c_count c_had z.1 z.2) n (n2, n3) = some e2 → (∀ (ls : Array Slot), lv_has ls 4 [(2, .int e2)] → WW (F0 m 25 ls [])) → ∀ (ls : Array Slot), lv_has ls 4 [(0, .ref a0), (1, .int n1), (2, .int n2), (3, .int n3)] → WW (F0 m 4 ls []) := by
    intro n
    induction n with
    | zero =>
      intro n1 n2 n3 e2 hlp
      exact absurd hlp (by simp [loop])
    | succ n ih =>
      intro n1 n2 n3 e2 hlp K ls hl
      obtain ⟨x9, hf, hlp⟩ := loop_s hlp
      have hf : f_X2_piecesAt_L4 n1 c_count c_had n2 n3 = some x9 := hf
      unfold f_X2_piecesAt_L4 at hf
      refine (hWW _).mpr ?_
      refine lv_iload_n hx hb dX2_piecesAt_4 rfl (lv_at hl 3 rfl) ?_
      refine lv_bipush (v := 24) hx hb dX2_piecesAt_5 (by decide) ?_
      refine lv_icmp_ge (tgt := 25) hx hb dX2_piecesAt_7 (by decide) (fun h1 => ?_) (fun h1 => ?_)
      · have hf := ipos h1 hf
        obtain rfl := Option.some.inj hf
        cases lpx_r hlp
        exact (hWW _).mp (K ls (lv_sub hl [2] rfl))
      · have hf := ineg h1 hf
        refine lv_iload_n hx hb dX2_piecesAt_10 rfl (lv_at hl 2 rfl) ?_
        refine lv_aload_n hx hb dX2_piecesAt_11 rfl (lv_at hl 0 rfl) ?_
        refine lv_iload_n hx hb dX2_piecesAt_12 rfl (lv_at hl 1 rfl) ?_
        refine lv_iload_n hx hb dX2_piecesAt_13 rfl (lv_at hl 3 rfl) ?_
        obtain ⟨r2, hc3, hf⟩ := ob1 hf
        refine ro_calli (r := r2) (va_runV (As := [.int n1, .int n3]) (rest := [.int n2]) ⟨hx, hb, hml, hown, hts⟩ (k_X2_piecesOf l hl0 D cI cJ cZ cS B0 H a0 a_customer a_product a_open a_due a_life a_byDue a_had a_stamps c_count c_gifts c_had n1 n3 r2 hc3) (cwV 2 hts (gV tb_667 tb_668 tb_669 tb_5 tb_670) rfl rfl rfl (by decide +kernel) ⟨Nat.le_of_ble_eq_true rfl, Nat.le_of_ble_eq_true rfl⟩) ⟨rp_blind, va_recv hK hP (ci := 1) (q0 := 0) rfl rfl, rp_pre (hP.sub [0, 1] rfl) hK (hBn _ _ hS) (hEn _ _ hS)⟩ rfl rfl hl.1 rfl (lv_room (Nat.le_of_ble_eq_true rfl)) dX2_piecesAt_14 ⟨Nat.le_of_ble_eq_true rfl, Nat.le_of_ble_eq_true rfl⟩) ?_
        refine lv_iadd hx hb dX2_piecesAt_17 ?_
        refine lv_istore_n (lv' := [(2, .int (n2 + r2)), (0, .ref a0), (1, .int n1), (3, .int n3)]) hx hb dX2_piecesAt_18 rfl hl (by decide) rfl (fun ls hl => ?_)
        refine lv_iinc (v := (n3 + 1)) (lv' := [(3, .int (n3 + 1)), (2, .int (n2 + r2)), (0, .ref a0), (1, .int n1)]) hx hb dX2_piecesAt_19 hl (k := 3) rfl rfl (by decide) rfl (fun ls hl => ?_)
        refine lv_goto (tgt := 4) hx hb dX2_piecesAt_22 (by decide) ?_
        obtain rfl := Option.some.inj hf
        exact (hWW _).mp (ih _ _ _ _ hlp K ls (lv_sub hl [2, 3, 1, 0] rfl))
  refine (hWW _).mpr ?_
  refine lv_iconst (v := 0) hx hb dX2_piecesAt_0 (by decide) ?_
  refine lv_istore_n (lv' := [(2, .int 0), (0, .ref a0), (1, .int v1)]) hx hb dX2_piecesAt_1 rfl hl (by decide) rfl (fun ls hl => ?_)
  refine lv_iconst (v := 0) hx hb dX2_piecesAt_2 (by decide) ?_
  refine lv_istore_n (lv' := [(3, .int 0), (2, .int 0), (0, .ref a0), (1, .int v1)]) hx hb dX2_piecesAt_3 rfl hl (by decide) rfl (fun ls hl => ?_)
  obtain ⟨m5, hc4, hf⟩ := ob1 hf
  refine (hWW _).mp (hL4 fu _ _ _ _ hc4 (fun ls hl => ?_) ls (lv_sub hl [2, 3, 1, 0] rfl))
  · refine (hWW _).mpr ?_
    refine lv_iload_n hx hb dX2_piecesAt_25 rfl (lv_at hl 0 rfl) ?_
    cases hf
    exact W.iret hx hb hr (fun t ht hW => ⟨⟨_, (), rfl, rfl, (ht.trans hHe)⟩, hS.F ht⟩) hS.2.2 dX2_piecesAt_26
def f_X2_piecesOutOf_L4 (n1 : Int32) (c_count : Int32) (c_had : Nat → Int32) (n2 : Int32) (n3 : Int32) : Option ((Int32 × Int32) ⊕ Int32) :=
  (if c_count ≤ n3 then some (.inr n2)
  else bnd1 (f_X2_piecesOf n3 n1 c_count c_had) (fun r2 =>
  (some (.inl (n2 + r2, n3 + 1)))))
def f_X2_piecesOutOf (v1 : Int32) (c_count : Int32) (c_had : Nat → Int32) : Option (Int32) :=
  (bnd1 (loop (fun z => f_X2_piecesOutOf_L4 v1 c_count c_had z.1 z.2) fu (0, 0)) fun m5 =>
  some m5)
set_option maxHeartbeats 4000000 in
set_option maxRecDepth 100000 in
theorem k_X2_piecesOutOf (l : Launch) (hl0 : l.stackTraces = false) (D : va_G) (cI cJ cZ cS : ClassId) (B0 : Nat) (H0 : Heap) (a0 a_customer a_product a_open a_due a_life a_byDue a_had a_stamps : Nat) (c_count : Int32) (c_gifts : Int32) (c_had : Nat → Int32) (v1 : Int32) (r9 : Int32)  (hf : f_X2_piecesOutOf v1 c_count c_had = some r9) : Met l yX2_piecesOutOf (wz yX2_piecesOutOf cX2_piecesOutOf 4 (some .int)) ({ frames := 3, cells := 0, slots := 0, locals := 65 }) (va_Pc [.ref a0, .int v1] (rp D cI cJ cZ cS B0 [oX2 a0 c_count c_gifts a_customer a_product a_open a_due a_life a_byDue a_had a_stamps, rI cI a_had 960 c_had] H0)) (va_Qi (fun (r2 : Int32) (_ : Unit) => r2 = r9) (fun _ t => t.heap = H0) (fun q => H0.size ≤ q)) 0 0 (fun q => H0.size ≤ q) := by
  refine Met.ofW (cc := cX2_piecesOutOf) (maxL := 4) (ret := (some .int)) (by decide) rfl ?_
  intro p e s m args below meth c s₁ B hml hv
  obtain ⟨rfl, hH, hP, hK, hB0, hE⟩ := hv
  subst hH
  have hx := B.exec
  have hb := B.bytes
  have hr := B.returns
  have hts := atoms_spec (ws := (wz yX2_piecesOutOf cX2_piecesOutOf 4 (some .int))) B.pre
  have hown : s.vm.findClass RX2 = some m.cls := findClass_of_methodNamed B.named
  have hlocks := B.notSynchronized
  have hAB : ∀ q : Nat, s.heap.size ≤ q → B0 ≤ q := fun q h => Nat.le_trans hB0 h
  have hA : ∀ q : Nat, s.heap.size ≤ q → s.heap.size ≤ q := fun _ h => h
  have hS : va_S (fun q => s.heap.size ≤ q) s.heap s.heap [] := va_S.rf
  have hBn := fun (H : Heap) (locs : List Loc) (h : va_S (fun q => s.heap.size ≤ q) s.heap H locs) => Nat.le_trans hB0 h.1
  have hEn := fun (H : Heap) (locs : List Loc) (h : va_S (fun q => s.heap.size ≤ q) s.heap H locs) => gE_now hE h hAB
  have hl := lv_entry ([.ref a0, .int v1]) (n := 4) (Nat.le_of_ble_eq_true rfl)
  rw [lg_entry_eq]
  generalize (lg_sl ([.ref a0, .int v1]) ++ List.replicate (4 - (lg_sl ([.ref a0, .int v1])).length) Slot.unset).toArray = ls at hl ⊢
  have hl : lv_has ls 4 [(0, .ref a0), (1, .int v1)] := hl
  obtain ⟨H, hHe⟩ : ∃ H : Heap, H = s.heap := ⟨_, rfl⟩
  have hP : va_P D vwCl [oX2 a0 c_count c_gifts a_customer a_product a_open a_due a_life a_byDue a_had a_stamps, rI cI a_had 960 c_had] H := by rw [hHe]; exact hP
  have hS : va_S (fun q => s.heap.size ≤ q) s.heap H [] := by rw [hHe]; exact hS
  refine W_heq hHe ?_
  unfold f_X2_piecesOutOf at hf
  refine gen_go (fun WW hWW => ?_)
  have hL4 : ∀ (n : Nat) (n1 : Int32) (n2 : Int32) (n3 : Int32) (e2 : Int32), loop (fun z => f_X2_piecesOutOf_L4 n1 c_count c_had z.1 z.2) n (n2, n3) = some e2 → (∀ (ls : Array Slot), lv_has ls 4 [(2, .int e2)] → WW (F0 m 27 ls [])) → ∀ (ls : Array Slot), lv_has ls 4 [(0, .ref a0), (1, .int n1), (2, .int n2), (3, .int n3)] → WW (F0 m 4 ls []) := by
    intro n
    induction n with
    | zero =>
      intro n1 n2 n3 e2 hlp
      exact absurd hlp (by simp [loop])
    | succ n ih =>
      intro n1 n2 n3 e2 hlp K ls hl
      obtain ⟨x9, hf, hlp⟩ := loop_s hlp
      have hf : f_X2_piecesOutOf_L4 n1 c_count c_had n2 n3 = some x9 := hf
      unfold f_X2_piecesOutOf_L4 at hf
      refine (hWW _).mpr ?_
      refine lv_iload_n hx hb dX2_piecesOutOf_4 rfl (lv_at hl 3 rfl) ?_
      refine lv_aload_n hx hb dX2_piecesOutOf_5 rfl (lv_at hl 0 rfl) ?_
      refine va_get (D := D) (ci := 1) (v := .int c_count) (C := RX2) (T := TX2) (N := 10) hx hb hts (fun w h => mb (iX2 w h)) hown hK hP 0 rfl rfl 0 (by decide) (hts _ (mb tb_124)) (fun _ h9 => h9) rfl dX2_piecesOutOf_6 ?_
      refine lv_icmp_ge (tgt := 27) hx hb dX2_piecesOutOf_9 (by decide) (fun h1 => ?_) (fun h1 => ?_)
      · have hf := ipos h1 hf
        obtain rfl := Option.some.inj hf
        cases lpx_r hlp
        exact (hWW _).mp (K ls (lv_sub hl [2] rfl))
      · have hf := ineg h1 hf
        refine lv_iload_n hx hb dX2_piecesOutOf_12 rfl (lv_at hl 2 rfl) ?_
        refine lv_aload_n hx hb dX2_piecesOutOf_13 rfl (lv_at hl 0 rfl) ?_
        refine lv_iload_n hx hb dX2_piecesOutOf_14 rfl (lv_at hl 3 rfl) ?_
        refine lv_iload_n hx hb dX2_piecesOutOf_15 rfl (lv_at hl 1 rfl) ?_
        obtain ⟨r2, hc3, hf⟩ := ob1 hf
        refine ro_calli (r := r2) (va_runV (As := [.int n3, .int n1]) (rest := [.int n2]) ⟨hx, hb, hml, hown, hts⟩ (k_X2_piecesOf l hl0 D cI cJ cZ cS B0 H a0 a_customer a_product a_open a_due a_life a_byDue a_had a_stamps c_count c_gifts c_had n3 n1 r2 hc3) (cwV 2 hts (gV tb_667 tb_668 tb_669 tb_5 tb_670) rfl rfl rfl (by decide +kernel) ⟨Nat.le_of_ble_eq_true rfl, Nat.le_of_ble_eq_true rfl⟩) ⟨rp_blind, va_recv hK hP (ci := 1) (q0 := 0) rfl rfl, rp_pre (hP.sub [0, 1] rfl) hK (hBn _ _ hS) (hEn _ _ hS)⟩ rfl rfl hl.1 rfl (lv_room (Nat.le_of_ble_eq_true rfl)) dX2_piecesOutOf_16 ⟨Nat.le_of_ble_eq_true rfl, Nat.le_of_ble_eq_true rfl⟩) ?_
        refine lv_iadd hx hb dX2_piecesOutOf_19 ?_
        refine lv_istore_n (lv' := [(2, .int (n2 + r2)), (0, .ref a0), (1, .int n1), (3, .int n3)]) hx hb dX2_piecesOutOf_20 rfl hl (by decide) rfl (fun ls hl => ?_)
        refine lv_iinc (v := (n3 + 1)) (lv' := [(3, .int (n3 + 1)), (2, .int (n2 + r2)), (0, .ref a0), (1, .int n1)]) hx hb dX2_piecesOutOf_21 hl (k := 3) rfl rfl (by decide) rfl (fun ls hl => ?_)
        refine lv_goto (tgt := 4) hx hb dX2_piecesOutOf_24 (by decide) ?_
        obtain rfl := Option.some.inj hf
        exact (hWW _).mp (ih _ _ _ _ hlp K ls (lv_sub hl [2, 3, 1, 0] rfl))
  refine (hWW _).mpr ?_
  refine lv_iconst (v := 0) hx hb dX2_piecesOutOf_0 (by decide) ?_
  refine lv_istore_n (lv' := [(2, .int 0), (0, .ref a0), (1, .int v1)]) hx hb dX2_piecesOutOf_1 rfl hl (by decide) rfl (fun ls hl => ?_)
  refine lv_iconst (v := 0) hx hb dX2_piecesOutOf_2 (by decide) ?_
  refine lv_istore_n (lv' := [(3, .int 0), (2, .int 0), (0, .ref a0), (1, .int v1)]) hx hb dX2_piecesOutOf_3 rfl hl (by decide) rfl (fun ls hl => ?_)
  obtain ⟨m5, hc4, hf⟩ := ob1 hf
  refine (hWW _).mp (hL4 fu _ _ _ _ hc4 (fun ls hl => ?_) ls (lv_sub hl [2, 3, 1, 0] rfl))
  · refine (hWW _).mpr ?_
    refine lv_iload_n hx hb dX2_piecesOutOf_27 rfl (lv_at hl 0 rfl) ?_
    cases hf
    exact W.iret hx hb hr (fun t ht hW => ⟨⟨_, (), rfl, rfl, (ht.trans hHe)⟩, hS.F ht⟩) hS.2.2 dX2_piecesOutOf_28
def f_X2_openFrom_L5_J45 (n1 : Int32) (n2 : Int32) (n3 : Int32) (n4 : Int32) (c_count : Int32) (c_product : Nat → Int32) (c_open : Nat → Int32) (c_due : Nat → Int32) (c_life : Nat → Int32) : Option ((Int32 × Int32) ⊕ Int32) :=
  some (.inl (n3, n4 + 1))
def f_X2_openFrom_L5 (n1 : Int32) (n2 : Int32) (c_count : Int32) (c_product : Nat → Int32) (c_open : Nat → Int32) (c_due : Nat → Int32) (c_life : Nat → Int32) (n3 : Int32) (n4 : Int32) : Option ((Int32 × Int32) ⊕ Int32) :=
  (if c_count ≤ n4 then some (.inr n3)
  else gd n4 40 ((if (c_product n4.toNatClampNeg) = n1 then bnd1 (f_X2_wantedDay n4 c_count c_due c_life) (fun r4 =>
  ((if r4 < n2 then f_X2_openFrom_L5_J45 n1 n2 n3 n4 c_count c_product c_open c_due c_life
  else gd n4 40 (f_X2_openFrom_L5_J45 n1 n2 (n3 + (c_open n4.toNatClampNeg)) n4 c_count c_product c_open c_due c_life))))
  else f_X2_openFrom_L5_J45 n1 n2 n3 n4 c_count c_product c_open c_due c_life)))
def f_X2_openFrom (v1 : Int32) (v2 : Int32) (c_count : Int32) (c_product : Nat → Int32) (c_open : Nat → Int32) (c_due : Nat → Int32) (c_life : Nat → Int32) : Option (Int32) :=
  (bnd1 (loop (fun z => f_X2_openFrom_L5 v1 v2 c_count c_product c_open c_due c_life z.1 z.2) fu (0, 0)) fun m9 =>
  some m9)
set_option maxHeartbeats 4000000 in
set_option maxRecDepth 100000 in
theorem k_X2_openFrom (l : Launch) (hl0 : l.stackTraces = false) (D : va_G) (cI cJ cZ cS : ClassId) (B0 : Nat) (H0 : Heap) (a0 a_customer a_product a_open a_due a_life a_byDue a_had a_stamps : Nat) (c_count : Int32) (c_gifts : Int32) (c_product : Nat → Int32) (c_open : Nat → Int32) (c_due : Nat → Int32) (c_life : Nat → Int32) (v1 : Int32) (v2 : Int32) (r9 : Int32)  (hf : f_X2_openFrom v1 v2 c_count c_product c_open c_due c_life = some r9) : Met l yX2_openFrom (wz yX2_openFrom cX2_openFrom 5 (some .int)) ({ frames := 2, cells := 0, slots := 0, locals := 42 }) (va_Pc [.ref a0, .int v1, .int v2] (rp D cI cJ cZ cS B0 [oX2 a0 c_count c_gifts a_customer a_product a_open a_due a_life a_byDue a_had a_stamps, rI cI a_product 40 c_product, rI cI a_open 40 c_open, rI cI a_due 40 c_due, rI cI a_life 40 c_life] H0)) (va_Qi (fun (r2 : Int32) (_ : Unit) => r2 = r9) (fun _ t => t.heap = H0) (fun q => H0.size ≤ q)) 0 0 (fun q => H0.size ≤ q) := by
  refine Met.ofW (cc := cX2_openFrom) (maxL := 5) (ret := (some .int)) (by decide) rfl ?_
  intro p e s m args below meth c s₁ B hml hv
  obtain ⟨rfl, hH, hP, hK, hB0, hE⟩ := hv
  subst hH
  have hx := B.exec
  have hb := B.bytes
  have hr := B.returns
  have hts := atoms_spec (ws := (wz yX2_openFrom cX2_openFrom 5 (some .int))) B.pre
  have hown : s.vm.findClass RX2 = some m.cls := findClass_of_methodNamed B.named
  have hlocks := B.notSynchronized
  have hAB : ∀ q : Nat, s.heap.size ≤ q → B0 ≤ q := fun q h => Nat.le_trans hB0 h
  have hA : ∀ q : Nat, s.heap.size ≤ q → s.heap.size ≤ q := fun _ h => h
  have hS : va_S (fun q => s.heap.size ≤ q) s.heap s.heap [] := va_S.rf
  have hBn := fun (H : Heap) (locs : List Loc) (h : va_S (fun q => s.heap.size ≤ q) s.heap H locs) => Nat.le_trans hB0 h.1
  have hEn := fun (H : Heap) (locs : List Loc) (h : va_S (fun q => s.heap.size ≤ q) s.heap H locs) => gE_now hE h hAB
  have hl := lv_entry ([.ref a0, .int v1, .int v2]) (n := 5) (Nat.le_of_ble_eq_true rfl)
  rw [lg_entry_eq]
  generalize (lg_sl ([.ref a0, .int v1, .int v2]) ++ List.replicate (5 - (lg_sl ([.ref a0, .int v1, .int v2])).length) Slot.unset).toArray = ls at hl ⊢
  have hl : lv_has ls 5 [(0, .ref a0), (1, .int v1), (2, .int v2)] := hl
  obtain ⟨H, hHe⟩ : ∃ H : Heap, H = s.heap := ⟨_, rfl⟩
  have hP : va_P D vwCl [oX2 a0 c_count c_gifts a_customer a_product a_open a_due a_life a_byDue a_had a_stamps, rI cI a_product 40 c_product, rI cI a_open 40 c_open, rI cI a_due 40 c_due, rI cI a_life 40 c_life] H := by rw [hHe]; exact hP
  have hS : va_S (fun q => s.heap.size ≤ q) s.heap H [] := by rw [hHe]; exact hS
  refine W_heq hHe ?_
  unfold f_X2_openFrom at hf
  refine gen_go (fun WW hWW => ?_)
  have hL5 : ∀ (n : Nat) (n1 : Int32) (n2 : Int32) (n3 : Int32) (n4 : Int32) (e3 : Int32), loop (fun z => f_X2_openFrom_L5 n1 n2 c_count c_product c_open c_due c_life z.1 z.2) n (n3, n4) = some e3 → (∀ (ls : Array Slot), lv_has ls 5 [(3, .int e3)] → WW (F0 m 51 ls [])) → ∀ (ls : Array Slot), lv_has ls 5 [(0, .ref a0), (1, .int n1), (2, .int n2), (3, .int n3), (4, .int n4)] → WW (F0 m 5 ls []) := by
    intro n
    induction n with
    | zero =>
      intro n1 n2 n3 n4 e3 hlp
      exact absurd hlp (by simp [loop])
    | succ n ih =>
      intro n1 n2 n3 n4 e3 hlp K ls hl
      obtain ⟨x9, hf, hlp⟩ := loop_s hlp
      have hf : f_X2_openFrom_L5 n1 n2 c_count c_product c_open c_due c_life n3 n4 = some x9 := hf
      unfold f_X2_openFrom_L5 at hf
      have hJ45 : ∀ (n3 : Int32) (n4 : Int32), f_X2_openFrom_L5_J45 n1 n2 n3 n4 c_count c_product c_open c_due c_life = some x9 → ∀ (ls : Array Slot), lv_has ls 5 [(0, .ref a0), (1, .int n1), (2, .int n2), (3, .int n3), (4, .int n4)] → WW (F0 m 45 ls []) := by
        intro n3 n4 hf ls hl
        unfold f_X2_openFrom_L5_J45 at hf
        refine (hWW _).mpr ?_
        refine lv_iinc (v := (n4 + 1)) (lv' := [(4, .int (n4 + 1)), (0, .ref a0), (1, .int n1), (2, .int n2), (3, .int n3)]) hx hb dX2_openFrom_45 hl (k := 4) rfl rfl (by decide) rfl (fun ls hl => ?_)
        refine lv_goto (tgt := 5) hx hb dX2_openFrom_48 (by decide) ?_
        obtain rfl := Option.some.inj hf
        exact (hWW _).mp (ih _ _ _ _ _ hlp K ls (lv_sub hl [1, 2, 3, 4, 0] rfl))
      refine (hWW _).mpr ?_
      refine lv_iload hx hb dX2_openFrom_5 (lv_at hl 4 rfl) ?_
      refine lv_aload_n hx hb dX2_openFrom_7 rfl (lv_at hl 0 rfl) ?_
      refine va_get (D := D) (ci := 1) (v := .int c_count) (C := RX2) (T := TX2) (N := 10) hx hb hts (fun w h => mb (iX2 w h)) hown hK hP 0 rfl rfl 0 (by decide) (hts _ (mb tb_124)) (fun _ h9 => h9) rfl dX2_openFrom_8 ?_
      refine lv_icmp_ge (tgt := 51) hx hb dX2_openFrom_11 (by decide) (fun h1 => ?_) (fun h1 => ?_)
      · have hf := ipos h1 hf
        obtain rfl := Option.some.inj hf
        cases lpx_r hlp
        exact (hWW _).mp (K ls (lv_sub hl [3] rfl))
      · have hf := ineg h1 hf
        refine lv_aload_n hx hb dX2_openFrom_14 rfl (lv_at hl 0 rfl) ?_
        refine va_get (D := D) (ci := 1) (v := .ref a_product) (C := RX2) (T := TX2) (N := 10) hx hb hts (fun w h => mb (iX2 w h)) hown hK hP 0 rfl rfl 3 (by decide) (hts _ (mb tb_129)) (fun _ h9 => h9) rfl dX2_openFrom_15 ?_
        refine lv_iload hx hb dX2_openFrom_18 (lv_at hl 4 rfl) ?_
        obtain ⟨h2, hf⟩ := ob_d hf
        refine va_iald hx hb hK hP 1 0 rfl rfl h2 dX2_openFrom_20 ?_
        refine lv_iload_n hx hb dX2_openFrom_21 rfl (lv_at hl 1 rfl) ?_
        refine lv_icmp_ne (tgt := 45) hx hb dX2_openFrom_22 (by decide) (fun h3 => ?_) (fun h3 => ?_)
        · have hf := ineg h3 hf
          exact (hWW _).mp (hJ45 _ _ hf ls (lv_sub hl [0, 1, 2, 3, 4] rfl))
        · have hf := ipos h3 hf
          refine lv_aload_n hx hb dX2_openFrom_25 rfl (lv_at hl 0 rfl) ?_
          refine lv_iload hx hb dX2_openFrom_26 (lv_at hl 4 rfl) ?_
          obtain ⟨r4, hc5, hf⟩ := ob1 hf
          refine ro_calli (r := r4) (va_runV (As := [.int n4]) (rest := []) ⟨hx, hb, hml, hown, hts⟩ (k_X2_wantedDay l hl0 D cI cJ cZ cS B0 H a0 a_customer a_product a_open a_due a_life a_byDue a_had a_stamps c_count c_gifts c_due c_life n4 r4 hc5) (cwV 1 hts (gV tb_683 tb_635 tb_636 tb_5 tb_637) rfl rfl rfl (by decide +kernel) ⟨Nat.le_of_ble_eq_true rfl, Nat.le_of_ble_eq_true rfl⟩) ⟨rp_blind, va_recv hK hP (ci := 1) (q0 := 0) rfl rfl, rp_pre (hP.sub [0, 3, 4] rfl) hK (hBn _ _ hS) (hEn _ _ hS)⟩ rfl rfl hl.1 rfl (lv_room (Nat.le_of_ble_eq_true rfl)) dX2_openFrom_28 ⟨Nat.le_of_ble_eq_true rfl, Nat.le_of_ble_eq_true rfl⟩) ?_
          refine lv_iload_n hx hb dX2_openFrom_31 rfl (lv_at hl 2 rfl) ?_
          refine lv_icmp_lt (tgt := 45) hx hb dX2_openFrom_32 (by decide) (fun h6 => ?_) (fun h6 => ?_)
          · have hf := ipos h6 hf
            exact (hWW _).mp (hJ45 _ _ hf ls (lv_sub hl [0, 1, 2, 3, 4] rfl))
          · have hf := ineg h6 hf
            refine lv_iload_n hx hb dX2_openFrom_35 rfl (lv_at hl 3 rfl) ?_
            refine lv_aload_n hx hb dX2_openFrom_36 rfl (lv_at hl 0 rfl) ?_
            refine va_get (D := D) (ci := 1) (v := .ref a_open) (C := RX2) (T := TX2) (N := 10) hx hb hts (fun w h => mb (iX2 w h)) hown hK hP 0 rfl rfl 4 (by decide) (hts _ (mb tb_131)) (fun _ h9 => h9) rfl dX2_openFrom_37 ?_
            refine lv_iload hx hb dX2_openFrom_40 (lv_at hl 4 rfl) ?_
            obtain ⟨h7, hf⟩ := ob_d hf
            refine va_iald hx hb hK hP 2 0 rfl rfl h7 dX2_openFrom_42 ?_
            refine lv_iadd hx hb dX2_openFrom_43 ?_
            refine lv_istore_n (lv' := [(3, .int (n3 + (c_open n4.toNatClampNeg))), (0, .ref a0), (1, .int n1), (2, .int n2), (4, .int n4)]) hx hb dX2_openFrom_44 rfl hl (by decide) rfl (fun ls hl => ?_)
            exact (hWW _).mp (hJ45 _ _ hf ls (lv_sub hl [1, 2, 3, 0, 4] rfl))
  refine (hWW _).mpr ?_
  refine lv_iconst (v := 0) hx hb dX2_openFrom_0 (by decide) ?_
  refine lv_istore_n (lv' := [(3, .int 0), (0, .ref a0), (1, .int v1), (2, .int v2)]) hx hb dX2_openFrom_1 rfl hl (by decide) rfl (fun ls hl => ?_)
  refine lv_iconst (v := 0) hx hb dX2_openFrom_2 (by decide) ?_
  refine lv_istore (lv' := [(4, .int 0), (3, .int 0), (0, .ref a0), (1, .int v1), (2, .int v2)]) hx hb dX2_openFrom_3 hl (by decide) rfl (fun ls hl => ?_)
  obtain ⟨m9, hc8, hf⟩ := ob1 hf
  refine (hWW _).mp (hL5 fu _ _ _ _ _ hc8 (fun ls hl => ?_) ls (lv_sub hl [2, 3, 4, 1, 0] rfl))
  · refine (hWW _).mpr ?_
    refine lv_iload_n hx hb dX2_openFrom_51 rfl (lv_at hl 0 rfl) ?_
    cases hf
    exact W.iret hx hb hr (fun t ht hW => ⟨⟨_, (), rfl, rfl, (ht.trans hHe)⟩, hS.F ht⟩) hS.2.2 dX2_openFrom_52
def f_X2_give (v1 : Int32) (v2 : Int32) (v3 : Int32) (c_count : Int32) (c_gifts : Int32) (c_open : Nat → Int32) (c_had : Nat → Int32) (c_stamps : Nat → Int32) : Option (Int32 × (Nat → Int32) × (Nat → Int32) × (Nat → Int32)) :=
  bnd1 (f_X2_isCell v1 v2 c_count) (fun r1 =>
  ((if r1 = 0 then some (c_gifts, c_open, c_had, c_stamps)
  else gd v1 40 (gd v1 40 (gd ((v1 * 24) + v2) 960 (gd ((v1 * 24) + v2) 960 (gd ((v1 * 24) + v2) 960 (some (c_gifts + 1, upd c_open v1.toNatClampNeg ((c_open v1.toNatClampNeg) - v3), upd c_had ((v1 * 24) + v2).toNatClampNeg ((c_had ((v1 * 24) + v2).toNatClampNeg) + v3), upd c_stamps ((v1 * 24) + v2).toNatClampNeg (c_gifts + 1))))))))))
set_option maxHeartbeats 4000000 in
set_option maxRecDepth 100000 in
theorem k_X2_give (l : Launch) (hl0 : l.stackTraces = false) (D : va_G) (cI cJ cZ cS : ClassId) (B0 : Nat) (sz : Nat) (a0 a_customer a_product a_open a_due a_life a_byDue a_had a_stamps : Nat) (c_count : Int32) (c_gifts : Int32) (c_open : Nat → Int32) (c_had : Nat → Int32) (c_stamps : Nat → Int32) (v1 : Int32) (v2 : Int32) (v3 : Int32) (oc_gifts : Int32) (oc_open : Nat → Int32) (oc_had : Nat → Int32) (oc_stamps : Nat → Int32)  (hf : f_X2_give v1 v2 v3 c_count c_gifts c_open c_had c_stamps = some (oc_gifts, oc_open, oc_had, oc_stamps)) : Met l yX2_give (wz yX2_give cX2_give 4 none) ({ frames := 2, cells := 0, slots := 0, locals := 43 }) (va_Pc [.ref a0, .int v1, .int v2, .int v3] (wp D cI cJ cZ cS B0 [oX2 a0 c_count c_gifts a_customer a_product a_open a_due a_life a_byDue a_had a_stamps, rI cI a_open 40 c_open, rI cI a_had 960 c_had, rI cI a_stamps 960 c_stamps] sz)) (va_Qv (fun (_ : Unit) => True) (fun _ t => va_P D vwCl [oX2 a0 c_count oc_gifts a_customer a_product a_open a_due a_life a_byDue a_had a_stamps, rI cI a_open 40 oc_open, rI cI a_had 960 oc_had, rI cI a_stamps 960 oc_stamps] t.heap) (va_A [oX2 a0 c_count c_gifts a_customer a_product a_open a_due a_life a_byDue a_had a_stamps, rI cI a_open 40 c_open, rI cI a_had 960 c_had, rI cI a_stamps 960 c_stamps] sz)) 0 0 (va_A [oX2 a0 c_count c_gifts a_customer a_product a_open a_due a_life a_byDue a_had a_stamps, rI cI a_open 40 c_open, rI cI a_had 960 c_had, rI cI a_stamps 960 c_stamps] sz) := by
  refine Met.ofW (cc := cX2_give) (maxL := 4) (ret := none) (by decide) rfl ?_
  intro p e s m args below meth c s₁ B hml hv
  obtain ⟨rfl, hsz, hP, hK, hD0, hB0, hE⟩ := hv
  subst hsz
  have hx := B.exec
  have hb := B.bytes
  have hr := B.returns
  have hts := atoms_spec (ws := (wz yX2_give cX2_give 4 none)) B.pre
  have hown : s.vm.findClass RX2 = some m.cls := findClass_of_methodNamed B.named
  have hlocks := B.notSynchronized
  have hD := hD0.self (sz := s.heap.size)
  have hAB : ∀ q : Nat, va_A [oX2 a0 c_count c_gifts a_customer a_product a_open a_due a_life a_byDue a_had a_stamps, rI cI a_open 40 c_open, rI cI a_had 960 c_had, rI cI a_stamps 960 c_stamps] s.heap.size q → B0 ≤ q := va_A_B hD0 hB0
  generalize hAe : va_A [oX2 a0 c_count c_gifts a_customer a_product a_open a_due a_life a_byDue a_had a_stamps, rI cI a_open 40 c_open, rI cI a_had 960 c_had, rI cI a_stamps 960 c_stamps] s.heap.size = A at hD hAB ⊢
  have hA : ∀ q : Nat, s.heap.size ≤ q → A q := fun q h => by rw [← hAe]; exact Or.inr h
  have hFa := hA
  have hS : va_S A s.heap s.heap [] := va_S.rf
  have hBn := fun (H : Heap) (locs : List Loc) (h : va_S A s.heap H locs) => Nat.le_trans hB0 h.1
  have hEn := fun (H : Heap) (locs : List Loc) (h : va_S A s.heap H locs) => gE_now hE h hAB
  have hl := lv_entry ([.ref a0, .int v1, .int v2, .int v3]) (n := 4) (Nat.le_of_ble_eq_true rfl)
  rw [lg_entry_eq]
  generalize (lg_sl ([.ref a0, .int v1, .int v2, .int v3]) ++ List.replicate (4 - (lg_sl ([.ref a0, .int v1, .int v2, .int v3])).length) Slot.unset).toArray = ls at hl ⊢
  have hl : lv_has ls 4 [(0, .ref a0), (1, .int v1), (2, .int v2), (3, .int v3)] := hl
  obtain ⟨H, hHe⟩ : ∃ H : Heap, H = s.heap := ⟨_, rfl⟩
  have hP : va_P D vwCl [oX2 a0 c_count c_gifts a_customer a_product a_open a_due a_life a_byDue a_had a_stamps, rI cI a_open 40 c_open, rI cI a_had 960 c_had, rI cI a_stamps 960 c_stamps] H := by rw [hHe]; exact hP
  have hS : va_S A s.heap H [] := by rw [hHe]; exact hS
  refine W_heq hHe ?_
  unfold f_X2_give at hf
  refine lv_aload_n hx hb dX2_give_0 rfl (lv_at hl 0 rfl) ?_
  refine lv_iload_n hx hb dX2_give_1 rfl (lv_at hl 1 rfl) ?_
  refine lv_iload_n hx hb dX2_give_2 rfl (lv_at hl 2 rfl) ?_
  obtain ⟨r1, hc2, hf⟩ := ob1 hf
  refine ro_calli (r := r1) (va_runV (As := [.int v1, .int v2]) (rest := []) ⟨hx, hb, hml, hown, hts⟩ (k_X2_isCell l hl0 D cI cJ cZ cS B0 H a0 a_customer a_product a_open a_due a_life a_byDue a_had a_stamps c_count c_gifts v1 v2 r1 hc2) (cwV 2 hts (gV tb_650 tb_652 ts_16 tb_5 tb_653) rfl rfl rfl (by decide +kernel) ⟨Nat.le_of_ble_eq_true rfl, Nat.le_of_ble_eq_true rfl⟩) ⟨rp_blind, va_recv hK hP (ci := 1) (q0 := 0) rfl rfl, rp_pre (hP.sub [0] rfl) hK (hBn _ _ hS) (hEn _ _ hS)⟩ rfl rfl hl.1 rfl (lv_room (Nat.le_of_ble_eq_true rfl)) dX2_give_3 ⟨Nat.le_of_ble_eq_true rfl, Nat.le_of_ble_eq_true rfl⟩) ?_
  refine lv_if_eq (tgt := 59) hx hb dX2_give_6 (by decide) (fun h3 => ?_) (fun h3 => ?_)
  · have hf := ipos h3 hf
    cases hf
    refine W.widen (k := 0) (n := 0) (Nat.le_of_ble_eq_true rfl) (Nat.le_of_ble_eq_true rfl) ?_
    exact W.vret hx hb hr (fun t ht hW => ⟨⟨(), rfl, trivial, (by show va_P D vwCl _ t.heap; rw [ht]; exact hP)⟩, hS.F ht⟩) hS.2.2 dX2_give_59
  · have hf := ineg h3 hf
    refine lv_aload_n hx hb dX2_give_9 rfl (lv_at hl 0 rfl) ?_
    refine va_get (D := D) (ci := 1) (v := .ref a_open) (C := RX2) (T := TX2) (N := 10) hx hb hts (fun w h => mb (iX2 w h)) hown hK hP 0 rfl rfl 4 (by decide) (hts _ (mb tb_131)) (fun _ h9 => h9) rfl dX2_give_10 ?_
    refine lv_iload_n hx hb dX2_give_13 rfl (lv_at hl 1 rfl) ?_
    refine lv_dup2_11 hx hb dX2_give_14 rfl rfl ?_
    obtain ⟨h4, hf⟩ := ob_d hf
    refine va_iald hx hb hK hP 1 0 rfl rfl h4 dX2_give_15 ?_
    refine lv_iload_n hx hb dX2_give_16 rfl (lv_at hl 3 rfl) ?_
    refine lv_isub hx hb dX2_give_17 ?_
    obtain ⟨h5, hf⟩ := ob_d hf
    refine va_iast hx hb hK hP hD hS 1 0 rfl rfl h5 dX2_give_18 (fun H locs hP hD hS => ?_)
    have hP : va_P D vwCl [oX2 a0 c_count c_gifts a_customer a_product a_open a_due a_life a_byDue a_had a_stamps, rI cI a_open 40 (upd c_open v1.toNatClampNeg ((c_open v1.toNatClampNeg) - v3)), rI cI a_had 960 c_had, rI cI a_stamps 960 c_stamps] H := hP
    have hD : va_D A [oX2 a0 c_count c_gifts a_customer a_product a_open a_due a_life a_byDue a_had a_stamps, rI cI a_open 40 (upd c_open v1.toNatClampNeg ((c_open v1.toNatClampNeg) - v3)), rI cI a_had 960 c_had, rI cI a_stamps 960 c_stamps] := hD
    refine lv_aload_n hx hb dX2_give_19 rfl (lv_at hl 0 rfl) ?_
    refine va_get (D := D) (ci := 1) (v := .ref a_had) (C := RX2) (T := TX2) (N := 10) hx hb hts (fun w h => mb (iX2 w h)) hown hK hP 0 rfl rfl 8 (by decide) (hts _ (mb tb_138)) (fun _ h9 => h9) rfl dX2_give_20 ?_
    refine lv_iload_n hx hb dX2_give_23 rfl (lv_at hl 1 rfl) ?_
    refine lv_bipush (v := 24) hx hb dX2_give_24 (by decide) ?_
    refine lv_imul hx hb dX2_give_26 ?_
    refine lv_iload_n hx hb dX2_give_27 rfl (lv_at hl 2 rfl) ?_
    refine lv_iadd hx hb dX2_give_28 ?_
    refine lv_dup2_11 hx hb dX2_give_29 rfl rfl ?_
    obtain ⟨h6, hf⟩ := ob_d hf
    refine va_iald hx hb hK hP 2 0 rfl rfl h6 dX2_give_30 ?_
    refine lv_iload_n hx hb dX2_give_31 rfl (lv_at hl 3 rfl) ?_
    refine lv_iadd hx hb dX2_give_32 ?_
    obtain ⟨h7, hf⟩ := ob_d hf
    refine va_iast hx hb hK hP hD hS 2 0 rfl rfl h7 dX2_give_33 (fun H locs hP hD hS => ?_)
    have hP : va_P D vwCl [oX2 a0 c_count c_gifts a_customer a_product a_open a_due a_life a_byDue a_had a_stamps, rI cI a_open 40 (upd c_open v1.toNatClampNeg ((c_open v1.toNatClampNeg) - v3)), rI cI a_had 960 (upd c_had ((v1 * 24) + v2).toNatClampNeg ((c_had ((v1 * 24) + v2).toNatClampNeg) + v3)), rI cI a_stamps 960 c_stamps] H := hP
    have hD : va_D A [oX2 a0 c_count c_gifts a_customer a_product a_open a_due a_life a_byDue a_had a_stamps, rI cI a_open 40 (upd c_open v1.toNatClampNeg ((c_open v1.toNatClampNeg) - v3)), rI cI a_had 960 (upd c_had ((v1 * 24) + v2).toNatClampNeg ((c_had ((v1 * 24) + v2).toNatClampNeg) + v3)), rI cI a_stamps 960 c_stamps] := hD
    refine lv_aload_n hx hb dX2_give_34 rfl (lv_at hl 0 rfl) ?_
    refine lv_dup hx hb dX2_give_35 rfl ?_
    refine va_get (D := D) (ci := 1) (v := .int c_gifts) (C := RX2) (T := TX2) (N := 10) hx hb hts (fun w h => mb (iX2 w h)) hown hK hP 0 rfl rfl 1 (by decide) (hts _ (mb tb_126)) (fun _ h9 => h9) rfl dX2_give_36 ?_
    refine lv_iconst (v := 1) hx hb dX2_give_39 (by decide) ?_
    refine lv_iadd hx hb dX2_give_40 ?_
    refine va_put (D := D) (ci := 1) (v := .int (c_gifts + 1)) (ty := .int) (C := RX2) (T := TX2) (N := 10) hx hb hts (fun w h => mb (iX2 w h)) tyX2 tyX2_ok nmX2 hown hK hP hD hS 0 rfl rfl 1 (by decide) (hts _ (mb tb_126)) (fun _ h9 => h9) rfl (by decide +kernel) rfl rfl (Nat.le_of_ble_eq_true rfl) dX2_give_41 (fun H locs hP hD hS => ?_)
    have hP : va_P D vwCl [oX2 a0 c_count (c_gifts + 1) a_customer a_product a_open a_due a_life a_byDue a_had a_stamps, rI cI a_open 40 (upd c_open v1.toNatClampNeg ((c_open v1.toNatClampNeg) - v3)), rI cI a_had 960 (upd c_had ((v1 * 24) + v2).toNatClampNeg ((c_had ((v1 * 24) + v2).toNatClampNeg) + v3)), rI cI a_stamps 960 c_stamps] H := hP
    have hD : va_D A [oX2 a0 c_count (c_gifts + 1) a_customer a_product a_open a_due a_life a_byDue a_had a_stamps, rI cI a_open 40 (upd c_open v1.toNatClampNeg ((c_open v1.toNatClampNeg) - v3)), rI cI a_had 960 (upd c_had ((v1 * 24) + v2).toNatClampNeg ((c_had ((v1 * 24) + v2).toNatClampNeg) + v3)), rI cI a_stamps 960 c_stamps] := hD
    refine lv_aload_n hx hb dX2_give_44 rfl (lv_at hl 0 rfl) ?_
    refine va_get (D := D) (ci := 1) (v := .ref a_stamps) (C := RX2) (T := TX2) (N := 10) hx hb hts (fun w h => mb (iX2 w h)) hown hK hP 0 rfl rfl 9 (by decide) (hts _ (mb tb_139)) (fun _ h9 => h9) rfl dX2_give_45 ?_
    refine lv_iload_n hx hb dX2_give_48 rfl (lv_at hl 1 rfl) ?_
    refine lv_bipush (v := 24) hx hb dX2_give_49 (by decide) ?_
    refine lv_imul hx hb dX2_give_51 ?_
    refine lv_iload_n hx hb dX2_give_52 rfl (lv_at hl 2 rfl) ?_
    refine lv_iadd hx hb dX2_give_53 ?_
    refine lv_aload_n hx hb dX2_give_54 rfl (lv_at hl 0 rfl) ?_
    refine va_get (D := D) (ci := 1) (v := .int (c_gifts + 1)) (C := RX2) (T := TX2) (N := 10) hx hb hts (fun w h => mb (iX2 w h)) hown hK hP 0 rfl rfl 1 (by decide) (hts _ (mb tb_126)) (fun _ h9 => h9) rfl dX2_give_55 ?_
    obtain ⟨h8, hf⟩ := ob_d hf
    refine va_iast hx hb hK hP hD hS 3 0 rfl rfl h8 dX2_give_58 (fun H locs hP hD hS => ?_)
    have hP : va_P D vwCl [oX2 a0 c_count (c_gifts + 1) a_customer a_product a_open a_due a_life a_byDue a_had a_stamps, rI cI a_open 40 (upd c_open v1.toNatClampNeg ((c_open v1.toNatClampNeg) - v3)), rI cI a_had 960 (upd c_had ((v1 * 24) + v2).toNatClampNeg ((c_had ((v1 * 24) + v2).toNatClampNeg) + v3)), rI cI a_stamps 960 (upd c_stamps ((v1 * 24) + v2).toNatClampNeg (c_gifts + 1))] H := hP
    have hD : va_D A [oX2 a0 c_count (c_gifts + 1) a_customer a_product a_open a_due a_life a_byDue a_had a_stamps, rI cI a_open 40 (upd c_open v1.toNatClampNeg ((c_open v1.toNatClampNeg) - v3)), rI cI a_had 960 (upd c_had ((v1 * 24) + v2).toNatClampNeg ((c_had ((v1 * 24) + v2).toNatClampNeg) + v3)), rI cI a_stamps 960 (upd c_stamps ((v1 * 24) + v2).toNatClampNeg (c_gifts + 1))] := hD
    cases hf
    refine W.widen (k := 0) (n := 0) (Nat.le_of_ble_eq_true rfl) (Nat.le_of_ble_eq_true rfl) ?_
    exact W.vret hx hb hr (fun t ht hW => ⟨⟨(), rfl, trivial, (by show va_P D vwCl _ t.heap; rw [ht]; exact hP)⟩, hS.F ht⟩) hS.2.2 dX2_give_59
def f_X2_takeBack (v1 : Int32) (v2 : Int32) (v3 : Int32) (c_count : Int32) (c_had : Nat → Int32) : Option ((Nat → Int32)) :=
  bnd1 (f_X2_isCell v1 v2 c_count) (fun r1 =>
  ((if r1 = 0 then some c_had
  else gd ((v1 * 24) + v2) 960 (gd ((v1 * 24) + v2) 960 (some (upd c_had ((v1 * 24) + v2).toNatClampNeg ((c_had ((v1 * 24) + v2).toNatClampNeg) - v3)))))))
set_option maxHeartbeats 4000000 in
set_option maxRecDepth 100000 in
theorem k_X2_takeBack (l : Launch) (hl0 : l.stackTraces = false) (D : va_G) (cI cJ cZ cS : ClassId) (B0 : Nat) (sz : Nat) (a0 a_customer a_product a_open a_due a_life a_byDue a_had a_stamps : Nat) (c_count : Int32) (c_gifts : Int32) (c_had : Nat → Int32) (v1 : Int32) (v2 : Int32) (v3 : Int32) (oc_had : Nat → Int32)  (hf : f_X2_takeBack v1 v2 v3 c_count c_had = some oc_had) : Met l yX2_takeBack (wz yX2_takeBack cX2_takeBack 4 none) ({ frames := 2, cells := 0, slots := 0, locals := 43 }) (va_Pc [.ref a0, .int v1, .int v2, .int v3] (wp D cI cJ cZ cS B0 [oX2 a0 c_count c_gifts a_customer a_product a_open a_due a_life a_byDue a_had a_stamps, rI cI a_had 960 c_had] sz)) (va_Qv (fun (_ : Unit) => True) (fun _ t => va_P D vwCl [oX2 a0 c_count c_gifts a_customer a_product a_open a_due a_life a_byDue a_had a_stamps, rI cI a_had 960 oc_had] t.heap) (va_A [oX2 a0 c_count c_gifts a_customer a_product a_open a_due a_life a_byDue a_had a_stamps, rI cI a_had 960 c_had] sz)) 0 0 (va_A [oX2 a0 c_count c_gifts a_customer a_product a_open a_due a_life a_byDue a_had a_stamps, rI cI a_had 960 c_had] sz) := by
  refine Met.ofW (cc := cX2_takeBack) (maxL := 4) (ret := none) (by decide) rfl ?_
  intro p e s m args below meth c s₁ B hml hv
  obtain ⟨rfl, hsz, hP, hK, hD0, hB0, hE⟩ := hv
  subst hsz
  have hx := B.exec
  have hb := B.bytes
  have hr := B.returns
  have hts := atoms_spec (ws := (wz yX2_takeBack cX2_takeBack 4 none)) B.pre
  have hown : s.vm.findClass RX2 = some m.cls := findClass_of_methodNamed B.named
  have hlocks := B.notSynchronized
  have hD := hD0.self (sz := s.heap.size)
  have hAB : ∀ q : Nat, va_A [oX2 a0 c_count c_gifts a_customer a_product a_open a_due a_life a_byDue a_had a_stamps, rI cI a_had 960 c_had] s.heap.size q → B0 ≤ q := va_A_B hD0 hB0
  generalize hAe : va_A [oX2 a0 c_count c_gifts a_customer a_product a_open a_due a_life a_byDue a_had a_stamps, rI cI a_had 960 c_had] s.heap.size = A at hD hAB ⊢
  have hA : ∀ q : Nat, s.heap.size ≤ q → A q := fun q h => by rw [← hAe]; exact Or.inr h
  have hFa := hA
  have hS : va_S A s.heap s.heap [] := va_S.rf
  have hBn := fun (H : Heap) (locs : List Loc) (h : va_S A s.heap H locs) => Nat.le_trans hB0 h.1
  have hEn := fun (H : Heap) (locs : List Loc) (h : va_S A s.heap H locs) => gE_now hE h hAB
  have hl := lv_entry ([.ref a0, .int v1, .int v2, .int v3]) (n := 4) (Nat.le_of_ble_eq_true rfl)
  rw [lg_entry_eq]
  generalize (lg_sl ([.ref a0, .int v1, .int v2, .int v3]) ++ List.replicate (4 - (lg_sl ([.ref a0, .int v1, .int v2, .int v3])).length) Slot.unset).toArray = ls at hl ⊢
  have hl : lv_has ls 4 [(0, .ref a0), (1, .int v1), (2, .int v2), (3, .int v3)] := hl
  obtain ⟨H, hHe⟩ : ∃ H : Heap, H = s.heap := ⟨_, rfl⟩
  have hP : va_P D vwCl [oX2 a0 c_count c_gifts a_customer a_product a_open a_due a_life a_byDue a_had a_stamps, rI cI a_had 960 c_had] H := by rw [hHe]; exact hP
  have hS : va_S A s.heap H [] := by rw [hHe]; exact hS
  refine W_heq hHe ?_
  unfold f_X2_takeBack at hf
  refine lv_aload_n hx hb dX2_takeBack_0 rfl (lv_at hl 0 rfl) ?_
  refine lv_iload_n hx hb dX2_takeBack_1 rfl (lv_at hl 1 rfl) ?_
  refine lv_iload_n hx hb dX2_takeBack_2 rfl (lv_at hl 2 rfl) ?_
  obtain ⟨r1, hc2, hf⟩ := ob1 hf
  refine ro_calli (r := r1) (va_runV (As := [.int v1, .int v2]) (rest := []) ⟨hx, hb, hml, hown, hts⟩ (k_X2_isCell l hl0 D cI cJ cZ cS B0 H a0 a_customer a_product a_open a_due a_life a_byDue a_had a_stamps c_count c_gifts v1 v2 r1 hc2) (cwV 2 hts (gV tb_650 tb_652 ts_16 tb_5 tb_653) rfl rfl rfl (by decide +kernel) ⟨Nat.le_of_ble_eq_true rfl, Nat.le_of_ble_eq_true rfl⟩) ⟨rp_blind, va_recv hK hP (ci := 1) (q0 := 0) rfl rfl, rp_pre (hP.sub [0] rfl) hK (hBn _ _ hS) (hEn _ _ hS)⟩ rfl rfl hl.1 rfl (lv_room (Nat.le_of_ble_eq_true rfl)) dX2_takeBack_3 ⟨Nat.le_of_ble_eq_true rfl, Nat.le_of_ble_eq_true rfl⟩) ?_
  refine lv_if_eq (tgt := 24) hx hb dX2_takeBack_6 (by decide) (fun h3 => ?_) (fun h3 => ?_)
  · have hf := ipos h3 hf
    cases hf
    refine W.widen (k := 0) (n := 0) (Nat.le_of_ble_eq_true rfl) (Nat.le_of_ble_eq_true rfl) ?_
    exact W.vret hx hb hr (fun t ht hW => ⟨⟨(), rfl, trivial, (by show va_P D vwCl _ t.heap; rw [ht]; exact hP)⟩, hS.F ht⟩) hS.2.2 dX2_takeBack_24
  · have hf := ineg h3 hf
    refine lv_aload_n hx hb dX2_takeBack_9 rfl (lv_at hl 0 rfl) ?_
    refine va_get (D := D) (ci := 1) (v := .ref a_had) (C := RX2) (T := TX2) (N := 10) hx hb hts (fun w h => mb (iX2 w h)) hown hK hP 0 rfl rfl 8 (by decide) (hts _ (mb tb_138)) (fun _ h9 => h9) rfl dX2_takeBack_10 ?_
    refine lv_iload_n hx hb dX2_takeBack_13 rfl (lv_at hl 1 rfl) ?_
    refine lv_bipush (v := 24) hx hb dX2_takeBack_14 (by decide) ?_
    refine lv_imul hx hb dX2_takeBack_16 ?_
    refine lv_iload_n hx hb dX2_takeBack_17 rfl (lv_at hl 2 rfl) ?_
    refine lv_iadd hx hb dX2_takeBack_18 ?_
    refine lv_dup2_11 hx hb dX2_takeBack_19 rfl rfl ?_
    obtain ⟨h4, hf⟩ := ob_d hf
    refine va_iald hx hb hK hP 1 0 rfl rfl h4 dX2_takeBack_20 ?_
    refine lv_iload_n hx hb dX2_takeBack_21 rfl (lv_at hl 3 rfl) ?_
    refine lv_isub hx hb dX2_takeBack_22 ?_
    obtain ⟨h5, hf⟩ := ob_d hf
    refine va_iast hx hb hK hP hD hS 1 0 rfl rfl h5 dX2_takeBack_23 (fun H locs hP hD hS => ?_)
    have hP : va_P D vwCl [oX2 a0 c_count c_gifts a_customer a_product a_open a_due a_life a_byDue a_had a_stamps, rI cI a_had 960 (upd c_had ((v1 * 24) + v2).toNatClampNeg ((c_had ((v1 * 24) + v2).toNatClampNeg) - v3))] H := hP
    have hD : va_D A [oX2 a0 c_count c_gifts a_customer a_product a_open a_due a_life a_byDue a_had a_stamps, rI cI a_had 960 (upd c_had ((v1 * 24) + v2).toNatClampNeg ((c_had ((v1 * 24) + v2).toNatClampNeg) - v3))] := hD
    cases hf
    refine W.widen (k := 0) (n := 0) (Nat.le_of_ble_eq_true rfl) (Nat.le_of_ble_eq_true rfl) ?_
    exact W.vret hx hb hr (fun t ht hW => ⟨⟨(), rfl, trivial, (by show va_P D vwCl _ t.heap; rw [ht]; exact hP)⟩, hS.F ht⟩) hS.2.2 dX2_takeBack_24
def f_X2_latestLot_L5_J69 (n1 : Int32) (n2 : Int32) (n3 : Int32) (n4 : Int32) (c_count : Int32) (c_had : Nat → Int32) (c_stamps : Nat → Int32) : Option ((Int32 × Int32) ⊕ Int32) :=
  some (.inl (n3, n4 + 1))
def f_X2_latestLot_L5_J66 (n1 : Int32) (n2 : Int32) (n4 : Int32) (c_count : Int32) (c_had : Nat → Int32) (c_stamps : Nat → Int32) : Option ((Int32 × Int32) ⊕ Int32) :=
  f_X2_latestLot_L5_J69 n1 n2 n4 n4 c_count c_had c_stamps
def f_X2_latestLot_L5_J38 (n1 : Int32) (n2 : Int32) (n3 : Int32) (n4 : Int32) (t0 : Int32) (c_count : Int32) (c_had : Nat → Int32) (c_stamps : Nat → Int32) : Option ((Int32 × Int32) ⊕ Int32) :=
  (if t0 = 0 then f_X2_latestLot_L5_J69 n1 n2 n3 n4 c_count c_had c_stamps
  else (if n3 = (-1) then f_X2_latestLot_L5_J66 n1 n2 n4 c_count c_had c_stamps
  else bnd1 (f_X2_stampOf n1 n4 c_count c_stamps) (fun r7 =>
  (bnd1 (f_X2_stampOf n1 n3 c_count c_stamps) (fun r9 =>
  ((if r7 ≤ r9 then f_X2_latestLot_L5_J69 n1 n2 n3 n4 c_count c_had c_stamps
  else f_X2_latestLot_L5_J66 n1 n2 n4 c_count c_had c_stamps)))))))
def f_X2_latestLot_L5_J37 (n1 : Int32) (n2 : Int32) (n3 : Int32) (n4 : Int32) (c_count : Int32) (c_had : Nat → Int32) (c_stamps : Nat → Int32) : Option ((Int32 × Int32) ⊕ Int32) :=
  f_X2_latestLot_L5_J38 n1 n2 n3 n4 0 c_count c_had c_stamps
def f_X2_latestLot_L5 (n1 : Int32) (n2 : Int32) (c_count : Int32) (c_had : Nat → Int32) (c_stamps : Nat → Int32) (n3 : Int32) (n4 : Int32) : Option ((Int32 × Int32) ⊕ Int32) :=
  (if 24 ≤ n4 then some (.inr n3)
  else bnd1 (f_X2_piecesOf n1 n4 c_count c_had) (fun r2 =>
  ((if r2 ≤ 0 then f_X2_latestLot_L5_J37 n1 n2 n3 n4 c_count c_had c_stamps
  else bnd1 (f_X2_stampOf n1 n4 c_count c_stamps) (fun r12 =>
  ((if n2 ≤ r12 then f_X2_latestLot_L5_J37 n1 n2 n3 n4 c_count c_had c_stamps
  else f_X2_latestLot_L5_J38 n1 n2 n3 n4 1 c_count c_had c_stamps)))))))
def f_X2_latestLot (v1 : Int32) (v2 : Int32) (c_count : Int32) (c_had : Nat → Int32) (c_stamps : Nat → Int32) : Option (Int32) :=
  (bnd1 (loop (fun z => f_X2_latestLot_L5 v1 v2 c_count c_had c_stamps z.1 z.2) fu ((-1), 0)) fun m16 =>
  some m16)
set_option maxHeartbeats 4000000 in
set_option maxRecDepth 100000 in
theorem k_X2_latestLot (l : Launch) (hl0 : l.stackTraces = false) (D : va_G) (cI cJ cZ cS : ClassId) (B0 : Nat) (H0 : Heap) (a0 a_customer a_product a_open a_due a_life a_byDue a_had a_stamps : Nat) (c_count : Int32) (c_gifts : Int32) (c_had : Nat → Int32) (c_stamps : Nat → Int32) (v1 : Int32) (v2 : Int32) (r9 : Int32)  (hf : f_X2_latestLot v1 v2 c_count c_had c_stamps = some r9) : Met l yX2_latestLot (wz yX2_latestLot cX2_latestLot 6 (some .int)) ({ frames := 3, cells := 0, slots := 0, locals := 65 }) (va_Pc [.ref a0, .int v1, .int v2] (rp D cI cJ cZ cS B0 [oX2 a0 c_count c_gifts a_customer a_product a_open a_due a_life a_byDue a_had a_stamps, rI cI a_had 960 c_had, rI cI a_stamps 960 c_stamps] H0)) (va_Qi (fun (r2 : Int32) (_ : Unit) => r2 = r9) (fun _ t => t.heap = H0) (fun q => H0.size ≤ q)) 0 0 (fun q => H0.size ≤ q) := by
  refine Met.ofW (cc := cX2_latestLot) (maxL := 6) (ret := (some .int)) (by decide) rfl ?_
  intro p e s m args below meth c s₁ B hml hv
  obtain ⟨rfl, hH, hP, hK, hB0, hE⟩ := hv
  subst hH
  have hx := B.exec
  have hb := B.bytes
  have hr := B.returns
  have hts := atoms_spec (ws := (wz yX2_latestLot cX2_latestLot 6 (some .int))) B.pre
  have hown : s.vm.findClass RX2 = some m.cls := findClass_of_methodNamed B.named
  have hlocks := B.notSynchronized
  have hAB : ∀ q : Nat, s.heap.size ≤ q → B0 ≤ q := fun q h => Nat.le_trans hB0 h
  have hA : ∀ q : Nat, s.heap.size ≤ q → s.heap.size ≤ q := fun _ h => h
  have hS : va_S (fun q => s.heap.size ≤ q) s.heap s.heap [] := va_S.rf
  have hBn := fun (H : Heap) (locs : List Loc) (h : va_S (fun q => s.heap.size ≤ q) s.heap H locs) => Nat.le_trans hB0 h.1
  have hEn := fun (H : Heap) (locs : List Loc) (h : va_S (fun q => s.heap.size ≤ q) s.heap H locs) => gE_now hE h hAB
  have hl := lv_entry ([.ref a0, .int v1, .int v2]) (n := 6) (Nat.le_of_ble_eq_true rfl)
  rw [lg_entry_eq]
  generalize (lg_sl ([.ref a0, .int v1, .int v2]) ++ List.replicate (6 - (lg_sl ([.ref a0, .int v1, .int v2])).length) Slot.unset).toArray = ls at hl ⊢
  have hl : lv_has ls 6 [(0, .ref a0), (1, .int v1), (2, .int v2)] := hl
  obtain ⟨H, hHe⟩ : ∃ H : Heap, H = s.heap := ⟨_, rfl⟩
  have hP : va_P D vwCl [oX2 a0 c_count c_gifts a_customer a_product a_open a_due a_life a_byDue a_had a_stamps, rI cI a_had 960 c_had, rI cI a_stamps 960 c_stamps] H := by rw [hHe]; exact hP
  have hS : va_S (fun q => s.heap.size ≤ q) s.heap H [] := by rw [hHe]; exact hS
  refine W_heq hHe ?_
  unfold f_X2_latestLot at hf
  refine gen_go (fun WW hWW => ?_)
  have hL5 : ∀ (n : Nat) (n1 : Int32) (n2 : Int32) (n3 : Int32) (n4 : Int32) (e3 : Int32), loop (fun z => f_X2_latestLot_L5 n1 n2 c_count c_had c_stamps z.1 z.2) n (n3, n4) = some e3 → (∀ (ls : Array Slot), lv_has ls 6 [(3, .int e3)] → WW (F0 m 75 ls [])) → ∀ (ls : Array Slot), lv_has ls 6 [(0, .ref a0), (1, .int n1), (2, .int n2), (3, .int n3), (4, .int n4)] → WW (F0 m 5 ls []) := by
    intro n
    induction n with
    | zero =>
      intro n1 n2 n3 n4 e3 hlp
      exact absurd hlp (by simp [loop])
    | succ n ih =>
      intro n1 n2 n3 n4 e3 hlp K ls hl
      obtain ⟨x9, hf, hlp⟩ := loop_s hlp
      have hf : f_X2_latestLot_L5 n1 n2 c_count c_had c_stamps n3 n4 = some x9 := hf
      unfold f_X2_latestLot_L5 at hf
      have hJ69 : ∀ (n3 : Int32) (n4 : Int32), f_X2_latestLot_L5_J69 n1 n2 n3 n4 c_count c_had c_stamps = some x9 → ∀ (ls : Array Slot), lv_has ls 6 [(0, .ref a0), (1, .int n1), (2, .int n2), (3, .int n3), (4, .int n4)] → WW (F0 m 69 ls []) := by
        intro n3 n4 hf ls hl
        unfold f_X2_latestLot_L5_J69 at hf
        refine (hWW _).mpr ?_
        refine lv_iinc (v := (n4 + 1)) (lv' := [(4, .int (n4 + 1)), (0, .ref a0), (1, .int n1), (2, .int n2), (3, .int n3)]) hx hb dX2_latestLot_69 hl (k := 4) rfl rfl (by decide) rfl (fun ls hl => ?_)
        refine lv_goto (tgt := 5) hx hb dX2_latestLot_72 (by decide) ?_
        obtain rfl := Option.some.inj hf
        exact (hWW _).mp (ih _ _ _ _ _ hlp K ls (lv_sub hl [1, 2, 3, 4, 0] rfl))
      have hJ66 : ∀ (n4 : Int32), f_X2_latestLot_L5_J66 n1 n2 n4 c_count c_had c_stamps = some x9 → ∀ (ls : Array Slot), lv_has ls 6 [(0, .ref a0), (1, .int n1), (2, .int n2), (4, .int n4)] → WW (F0 m 66 ls []) := by
        intro n4 hf ls hl
        unfold f_X2_latestLot_L5_J66 at hf
        refine (hWW _).mpr ?_
        refine lv_iload hx hb dX2_latestLot_66 (lv_at hl 3 rfl) ?_
        refine lv_istore_n (lv' := [(3, .int n4), (0, .ref a0), (1, .int n1), (2, .int n2), (4, .int n4)]) hx hb dX2_latestLot_68 rfl hl (by decide) rfl (fun ls hl => ?_)
        exact (hWW _).mp (hJ69 _ _ hf ls (lv_sub hl [1, 2, 3, 0, 4] rfl))
      have hJ38 : ∀ (n3 : Int32) (n4 : Int32) (t0 : Int32), f_X2_latestLot_L5_J38 n1 n2 n3 n4 t0 c_count c_had c_stamps = some x9 → ∀ (ls : Array Slot), lv_has ls 6 [(0, .ref a0), (1, .int n1), (2, .int n2), (3, .int n3), (4, .int n4)] → WW (F0 m 38 ls [.int t0]) := by
        intro n3 n4 t0 hf ls hl
        unfold f_X2_latestLot_L5_J38 at hf
        refine (hWW _).mpr ?_
        refine lv_istore (lv' := [(5, .int t0), (0, .ref a0), (1, .int n1), (2, .int n2), (3, .int n3), (4, .int n4)]) hx hb dX2_latestLot_38 hl (by decide) rfl (fun ls hl => ?_)
        refine lv_iload hx hb dX2_latestLot_40 (lv_at hl 0 rfl) ?_
        refine lv_if_eq (tgt := 69) hx hb dX2_latestLot_42 (by decide) (fun h5 => ?_) (fun h5 => ?_)
        · have hf := ipos h5 hf
          exact (hWW _).mp (hJ69 _ _ hf ls (lv_sub hl [1, 2, 3, 4, 5] rfl))
        · have hf := ineg h5 hf
          refine lv_iload_n hx hb dX2_latestLot_45 rfl (lv_at hl 4 rfl) ?_
          refine lv_iconst (v := (-1)) hx hb dX2_latestLot_46 (by decide) ?_
          refine lv_icmp_eq (tgt := 66) hx hb dX2_latestLot_47 (by decide) (fun h6 => ?_) (fun h6 => ?_)
          · have hf := ipos h6 hf
            exact (hWW _).mp (hJ66 _ hf ls (lv_sub hl [1, 2, 3, 5] rfl))
          · have hf := ineg h6 hf
            refine lv_aload_n hx hb dX2_latestLot_50 rfl (lv_at hl 1 rfl) ?_
            refine lv_iload_n hx hb dX2_latestLot_51 rfl (lv_at hl 2 rfl) ?_
            refine lv_iload hx hb dX2_latestLot_52 (lv_at hl 5 rfl) ?_
            obtain ⟨r7, hc8, hf⟩ := ob1 hf
            refine ro_calli (r := r7) (va_runV (As := [.int n1, .int n4]) (rest := []) ⟨hx, hb, hml, hown, hts⟩ (k_X2_stampOf l hl0 D cI cJ cZ cS B0 H a0 a_customer a_product a_open a_due a_life a_byDue a_had a_stamps c_count c_gifts c_stamps n1 n4 r7 hc8) (cwV 2 hts (gV tb_845 tb_846 tb_847 tb_5 tb_848) rfl rfl rfl (by decide +kernel) ⟨Nat.le_of_ble_eq_true rfl, Nat.le_of_ble_eq_true rfl⟩) ⟨rp_blind, va_recv hK hP (ci := 1) (q0 := 0) rfl rfl, rp_pre (hP.sub [0, 2] rfl) hK (hBn _ _ hS) (hEn _ _ hS)⟩ rfl rfl hl.1 rfl (lv_room (Nat.le_of_ble_eq_true rfl)) dX2_latestLot_54 ⟨Nat.le_of_ble_eq_true rfl, Nat.le_of_ble_eq_true rfl⟩) ?_
            refine lv_aload_n hx hb dX2_latestLot_57 rfl (lv_at hl 1 rfl) ?_
            refine lv_iload_n hx hb dX2_latestLot_58 rfl (lv_at hl 2 rfl) ?_
            refine lv_iload_n hx hb dX2_latestLot_59 rfl (lv_at hl 4 rfl) ?_
            obtain ⟨r9, hc10, hf⟩ := ob1 hf
            refine ro_calli (r := r9) (va_runV (As := [.int n1, .int n3]) (rest := [.int r7]) ⟨hx, hb, hml, hown, hts⟩ (k_X2_stampOf l hl0 D cI cJ cZ cS B0 H a0 a_customer a_product a_open a_due a_life a_byDue a_had a_stamps c_count c_gifts c_stamps n1 n3 r9 hc10) (cwV 2 hts (gV tb_845 tb_846 tb_847 tb_5 tb_848) rfl rfl rfl (by decide +kernel) ⟨Nat.le_of_ble_eq_true rfl, Nat.le_of_ble_eq_true rfl⟩) ⟨rp_blind, va_recv hK hP (ci := 1) (q0 := 0) rfl rfl, rp_pre (hP.sub [0, 2] rfl) hK (hBn _ _ hS) (hEn _ _ hS)⟩ rfl rfl hl.1 rfl (lv_room (Nat.le_of_ble_eq_true rfl)) dX2_latestLot_60 ⟨Nat.le_of_ble_eq_true rfl, Nat.le_of_ble_eq_true rfl⟩) ?_
            refine lv_icmp_le (tgt := 69) hx hb dX2_latestLot_63 (by decide) (fun h11 => ?_) (fun h11 => ?_)
            · have hf := ipos h11 hf
              exact (hWW _).mp (hJ69 _ _ hf ls (lv_sub hl [1, 2, 3, 4, 5] rfl))
            · have hf := ineg h11 hf
              exact (hWW _).mp (hJ66 _ hf ls (lv_sub hl [1, 2, 3, 5] rfl))
      have hJ37 : ∀ (n3 : Int32) (n4 : Int32), f_X2_latestLot_L5_J37 n1 n2 n3 n4 c_count c_had c_stamps = some x9 → ∀ (ls : Array Slot), lv_has ls 6 [(0, .ref a0), (1, .int n1), (2, .int n2), (3, .int n3), (4, .int n4)] → WW (F0 m 37 ls []) := by
        intro n3 n4 hf ls hl
        unfold f_X2_latestLot_L5_J37 at hf
        refine (hWW _).mpr ?_
        refine lv_iconst (v := 0) hx hb dX2_latestLot_37 (by decide) ?_
        exact (hWW _).mp (hJ38 _ _ _ hf ls (lv_sub hl [0, 1, 2, 3, 4] rfl))
      refine (hWW _).mpr ?_
      refine lv_iload hx hb dX2_latestLot_5 (lv_at hl 4 rfl) ?_
      refine lv_bipush (v := 24) hx hb dX2_latestLot_7 (by decide) ?_
      refine lv_icmp_ge (tgt := 75) hx hb dX2_latestLot_9 (by decide) (fun h1 => ?_) (fun h1 => ?_)
      · have hf := ipos h1 hf
        obtain rfl := Option.some.inj hf
        cases lpx_r hlp
        exact (hWW _).mp (K ls (lv_sub hl [3] rfl))
      · have hf := ineg h1 hf
        refine lv_aload_n hx hb dX2_latestLot_12 rfl (lv_at hl 0 rfl) ?_
        refine lv_iload_n hx hb dX2_latestLot_13 rfl (lv_at hl 1 rfl) ?_
        refine lv_iload hx hb dX2_latestLot_14 (lv_at hl 4 rfl) ?_
        obtain ⟨r2, hc3, hf⟩ := ob1 hf
        refine ro_calli (r := r2) (va_runV (As := [.int n1, .int n4]) (rest := []) ⟨hx, hb, hml, hown, hts⟩ (k_X2_piecesOf l hl0 D cI cJ cZ cS B0 H a0 a_customer a_product a_open a_due a_life a_byDue a_had a_stamps c_count c_gifts c_had n1 n4 r2 hc3) (cwV 2 hts (gV tb_667 tb_668 tb_669 tb_5 tb_670) rfl rfl rfl (by decide +kernel) ⟨Nat.le_of_ble_eq_true rfl, Nat.le_of_ble_eq_true rfl⟩) ⟨rp_blind, va_recv hK hP (ci := 1) (q0 := 0) rfl rfl, rp_pre (hP.sub [0, 1] rfl) hK (hBn _ _ hS) (hEn _ _ hS)⟩ rfl rfl hl.1 rfl (lv_room (Nat.le_of_ble_eq_true rfl)) dX2_latestLot_16 ⟨Nat.le_of_ble_eq_true rfl, Nat.le_of_ble_eq_true rfl⟩) ?_
        refine lv_if_le (tgt := 37) hx hb dX2_latestLot_19 (by decide) (fun h4 => ?_) (fun h4 => ?_)
        · have hf := ipos h4 hf
          exact (hWW _).mp (hJ37 _ _ hf ls (lv_sub hl [0, 1, 2, 3, 4] rfl))
        · have hf := ineg h4 hf
          refine lv_aload_n hx hb dX2_latestLot_22 rfl (lv_at hl 0 rfl) ?_
          refine lv_iload_n hx hb dX2_latestLot_23 rfl (lv_at hl 1 rfl) ?_
          refine lv_iload hx hb dX2_latestLot_24 (lv_at hl 4 rfl) ?_
          obtain ⟨r12, hc13, hf⟩ := ob1 hf
          refine ro_calli (r := r12) (va_runV (As := [.int n1, .int n4]) (rest := []) ⟨hx, hb, hml, hown, hts⟩ (k_X2_stampOf l hl0 D cI cJ cZ cS B0 H a0 a_customer a_product a_open a_due a_life a_byDue a_had a_stamps c_count c_gifts c_stamps n1 n4 r12 hc13) (cwV 2 hts (gV tb_845 tb_846 tb_847 tb_5 tb_848) rfl rfl rfl (by decide +kernel) ⟨Nat.le_of_ble_eq_true rfl, Nat.le_of_ble_eq_true rfl⟩) ⟨rp_blind, va_recv hK hP (ci := 1) (q0 := 0) rfl rfl, rp_pre (hP.sub [0, 2] rfl) hK (hBn _ _ hS) (hEn _ _ hS)⟩ rfl rfl hl.1 rfl (lv_room (Nat.le_of_ble_eq_true rfl)) dX2_latestLot_26 ⟨Nat.le_of_ble_eq_true rfl, Nat.le_of_ble_eq_true rfl⟩) ?_
          refine lv_iload_n hx hb dX2_latestLot_29 rfl (lv_at hl 2 rfl) ?_
          refine lv_icmp_ge (tgt := 37) hx hb dX2_latestLot_30 (by decide) (fun h14 => ?_) (fun h14 => ?_)
          · have hf := ipos h14 hf
            exact (hWW _).mp (hJ37 _ _ hf ls (lv_sub hl [0, 1, 2, 3, 4] rfl))
          · have hf := ineg h14 hf
            refine lv_iconst (v := 1) hx hb dX2_latestLot_33 (by decide) ?_
            refine lv_goto (tgt := 38) hx hb dX2_latestLot_34 (by decide) ?_
            exact (hWW _).mp (hJ38 _ _ _ hf ls (lv_sub hl [0, 1, 2, 3, 4] rfl))
  refine (hWW _).mpr ?_
  refine lv_iconst (v := (-1)) hx hb dX2_latestLot_0 (by decide) ?_
  refine lv_istore_n (lv' := [(3, .int (-1)), (0, .ref a0), (1, .int v1), (2, .int v2)]) hx hb dX2_latestLot_1 rfl hl (by decide) rfl (fun ls hl => ?_)
  refine lv_iconst (v := 0) hx hb dX2_latestLot_2 (by decide) ?_
  refine lv_istore (lv' := [(4, .int 0), (3, .int (-1)), (0, .ref a0), (1, .int v1), (2, .int v2)]) hx hb dX2_latestLot_3 hl (by decide) rfl (fun ls hl => ?_)
  obtain ⟨m16, hc15, hf⟩ := ob1 hf
  refine (hWW _).mp (hL5 fu _ _ _ _ _ hc15 (fun ls hl => ?_) ls (lv_sub hl [2, 3, 4, 1, 0] rfl))
  · refine (hWW _).mpr ?_
    refine lv_iload_n hx hb dX2_latestLot_75 rfl (lv_at hl 0 rfl) ?_
    cases hf
    exact W.iret hx hb hr (fun t ht hW => ⟨⟨_, (), rfl, rfl, (ht.trans hHe)⟩, hS.F ht⟩) hS.2.2 dX2_latestLot_76
def f_X2_copyFrom (c_count : Int32) (c_gifts : Int32) (c_customer : Nat → Int32) (c_product : Nat → Int32) (c_open : Nat → Int32) (c_due : Nat → Int32) (c_life : Nat → Int32) (c_byDue : Nat → Int32) (c_had : Nat → Int32) (c_stamps : Nat → Int32) (cp1_count : Int32) (cp1_gifts : Int32) (cp1_customer : Nat → Int32) (cp1_product : Nat → Int32) (cp1_open : Nat → Int32) (cp1_due : Nat → Int32) (cp1_life : Nat → Int32) (cp1_byDue : Nat → Int32) (cp1_had : Nat → Int32) (cp1_stamps : Nat → Int32) : Option (Int32 × Int32 × (Nat → Int32) × (Nat → Int32) × (Nat → Int32) × (Nat → Int32) × (Nat → Int32) × (Nat → Int32) × (Nat → Int32) × (Nat → Int32)) :=
  some (cp1_count, cp1_gifts, va_cpy cp1_customer c_customer (0 : Int32).toNatClampNeg (0 : Int32).toNatClampNeg (40 : Int32).toNatClampNeg, va_cpy cp1_product c_product (0 : Int32).toNatClampNeg (0 : Int32).toNatClampNeg (40 : Int32).toNatClampNeg, va_cpy cp1_open c_open (0 : Int32).toNatClampNeg (0 : Int32).toNatClampNeg (40 : Int32).toNatClampNeg, va_cpy cp1_due c_due (0 : Int32).toNatClampNeg (0 : Int32).toNatClampNeg (40 : Int32).toNatClampNeg, va_cpy cp1_life c_life (0 : Int32).toNatClampNeg (0 : Int32).toNatClampNeg (40 : Int32).toNatClampNeg, va_cpy cp1_byDue c_byDue (0 : Int32).toNatClampNeg (0 : Int32).toNatClampNeg (40 : Int32).toNatClampNeg, va_cpy cp1_had c_had (0 : Int32).toNatClampNeg (0 : Int32).toNatClampNeg (960 : Int32).toNatClampNeg, va_cpy cp1_stamps c_stamps (0 : Int32).toNatClampNeg (0 : Int32).toNatClampNeg (960 : Int32).toNatClampNeg)
set_option maxHeartbeats 4000000 in
set_option maxRecDepth 100000 in
theorem k_X2_copyFrom (l : Launch) (hl0 : l.stackTraces = false) (D : va_G) (cI cJ cZ cS : ClassId) (B0 : Nat) (sz : Nat) (a0 a_customer a_product a_open a_due a_life a_byDue a_had a_stamps ap1 ap1_customer ap1_product ap1_open ap1_due ap1_life ap1_byDue ap1_had ap1_stamps : Nat) (c_count : Int32) (c_gifts : Int32) (c_customer : Nat → Int32) (c_product : Nat → Int32) (c_open : Nat → Int32) (c_due : Nat → Int32) (c_life : Nat → Int32) (c_byDue : Nat → Int32) (c_had : Nat → Int32) (c_stamps : Nat → Int32) (cp1_count : Int32) (cp1_gifts : Int32) (cp1_customer : Nat → Int32) (cp1_product : Nat → Int32) (cp1_open : Nat → Int32) (cp1_due : Nat → Int32) (cp1_life : Nat → Int32) (cp1_byDue : Nat → Int32) (cp1_had : Nat → Int32) (cp1_stamps : Nat → Int32) (oc_count : Int32) (oc_gifts : Int32) (oc_customer : Nat → Int32) (oc_product : Nat → Int32) (oc_open : Nat → Int32) (oc_due : Nat → Int32) (oc_life : Nat → Int32) (oc_byDue : Nat → Int32) (oc_had : Nat → Int32) (oc_stamps : Nat → Int32)  (hf : f_X2_copyFrom c_count c_gifts c_customer c_product c_open c_due c_life c_byDue c_had c_stamps cp1_count cp1_gifts cp1_customer cp1_product cp1_open cp1_due cp1_life cp1_byDue cp1_had cp1_stamps = some (oc_count, oc_gifts, oc_customer, oc_product, oc_open, oc_due, oc_life, oc_byDue, oc_had, oc_stamps)) : Met l yX2_copyFrom (wz yX2_copyFrom cX2_copyFrom 2 none) ({ frames := 1, cells := 0, slots := 0, locals := 40 }) (va_Pc [.ref a0, .ref ap1] (wp D cI cJ cZ cS B0 [oX2 a0 c_count c_gifts a_customer a_product a_open a_due a_life a_byDue a_had a_stamps, rI cI a_customer 40 c_customer, rI cI a_product 40 c_product, rI cI a_open 40 c_open, rI cI a_due 40 c_due, rI cI a_life 40 c_life, rI cI a_byDue 40 c_byDue, rI cI a_had 960 c_had, rI cI a_stamps 960 c_stamps, oX2 ap1 cp1_count cp1_gifts ap1_customer ap1_product ap1_open ap1_due ap1_life ap1_byDue ap1_had ap1_stamps, rI cI ap1_customer 40 cp1_customer, rI cI ap1_product 40 cp1_product, rI cI ap1_open 40 cp1_open, rI cI ap1_due 40 cp1_due, rI cI ap1_life 40 cp1_life, rI cI ap1_byDue 40 cp1_byDue, rI cI ap1_had 960 cp1_had, rI cI ap1_stamps 960 cp1_stamps] sz)) (va_Qv (fun (_ : Unit) => True) (fun _ t => va_P D vwCl [oX2 a0 oc_count oc_gifts a_customer a_product a_open a_due a_life a_byDue a_had a_stamps, rI cI a_customer 40 oc_customer, rI cI a_product 40 oc_product, rI cI a_open 40 oc_open, rI cI a_due 40 oc_due, rI cI a_life 40 oc_life, rI cI a_byDue 40 oc_byDue, rI cI a_had 960 oc_had, rI cI a_stamps 960 oc_stamps, oX2 ap1 cp1_count cp1_gifts ap1_customer ap1_product ap1_open ap1_due ap1_life ap1_byDue ap1_had ap1_stamps, rI cI ap1_customer 40 cp1_customer, rI cI ap1_product 40 cp1_product, rI cI ap1_open 40 cp1_open, rI cI ap1_due 40 cp1_due, rI cI ap1_life 40 cp1_life, rI cI ap1_byDue 40 cp1_byDue, rI cI ap1_had 960 cp1_had, rI cI ap1_stamps 960 cp1_stamps] t.heap) (va_A [oX2 a0 c_count c_gifts a_customer a_product a_open a_due a_life a_byDue a_had a_stamps, rI cI a_customer 40 c_customer, rI cI a_product 40 c_product, rI cI a_open 40 c_open, rI cI a_due 40 c_due, rI cI a_life 40 c_life, rI cI a_byDue 40 c_byDue, rI cI a_had 960 c_had, rI cI a_stamps 960 c_stamps, oX2 ap1 cp1_count cp1_gifts ap1_customer ap1_product ap1_open ap1_due ap1_life ap1_byDue ap1_had ap1_stamps, rI cI ap1_customer 40 cp1_customer, rI cI ap1_product 40 cp1_product, rI cI ap1_open 40 cp1_open, rI cI ap1_due 40 cp1_due, rI cI ap1_life 40 cp1_life, rI cI ap1_byDue 40 cp1_byDue, rI cI ap1_had 960 cp1_had, rI cI ap1_stamps 960 cp1_stamps] sz)) 0 0 (va_A [oX2 a0 c_count c_gifts a_customer a_product a_open a_due a_life a_byDue a_had a_stamps, rI cI a_customer 40 c_customer, rI cI a_product 40 c_product, rI cI a_open 40 c_open, rI cI a_due 40 c_due, rI cI a_life 40 c_life, rI cI a_byDue 40 c_byDue, rI cI a_had 960 c_had, rI cI a_stamps 960 c_stamps, oX2 ap1 cp1_count cp1_gifts ap1_customer ap1_product ap1_open ap1_due ap1_life ap1_byDue ap1_had ap1_stamps, rI cI ap1_customer 40 cp1_customer, rI cI ap1_product 40 cp1_product, rI cI ap1_open 40 cp1_open, rI cI ap1_due 40 cp1_due, rI cI ap1_life 40 cp1_life, rI cI ap1_byDue 40 cp1_byDue, rI cI ap1_had 960 cp1_had, rI cI ap1_stamps 960 cp1_stamps] sz) := by
  refine Met.ofW (cc := cX2_copyFrom) (maxL := 2) (ret := none) (by decide) rfl ?_
  intro p e s m args below meth c s₁ B hml hv
  obtain ⟨rfl, hsz, hP, hK, hD0, hB0, hE⟩ := hv
  subst hsz
  have hx := B.exec
  have hb := B.bytes
  have hr := B.returns
  have hts := atoms_spec (ws := (wz yX2_copyFrom cX2_copyFrom 2 none)) B.pre
  have hown : s.vm.findClass RX2 = some m.cls := findClass_of_methodNamed B.named
  have hlocks := B.notSynchronized
  have hD := hD0.self (sz := s.heap.size)
  have hAB : ∀ q : Nat, va_A [oX2 a0 c_count c_gifts a_customer a_product a_open a_due a_life a_byDue a_had a_stamps, rI cI a_customer 40 c_customer, rI cI a_product 40 c_product, rI cI a_open 40 c_open, rI cI a_due 40 c_due, rI cI a_life 40 c_life, rI cI a_byDue 40 c_byDue, rI cI a_had 960 c_had, rI cI a_stamps 960 c_stamps, oX2 ap1 cp1_count cp1_gifts ap1_customer ap1_product ap1_open ap1_due ap1_life ap1_byDue ap1_had ap1_stamps, rI cI ap1_customer 40 cp1_customer, rI cI ap1_product 40 cp1_product, rI cI ap1_open 40 cp1_open, rI cI ap1_due 40 cp1_due, rI cI ap1_life 40 cp1_life, rI cI ap1_byDue 40 cp1_byDue, rI cI ap1_had 960 cp1_had, rI cI ap1_stamps 960 cp1_stamps] s.heap.size q → B0 ≤ q := va_A_B hD0 hB0
  generalize hAe : va_A [oX2 a0 c_count c_gifts a_customer a_product a_open a_due a_life a_byDue a_had a_stamps, rI cI a_customer 40 c_customer, rI cI a_product 40 c_product, rI cI a_open 40 c_open, rI cI a_due 40 c_due, rI cI a_life 40 c_life, rI cI a_byDue 40 c_byDue, rI cI a_had 960 c_had, rI cI a_stamps 960 c_stamps, oX2 ap1 cp1_count cp1_gifts ap1_customer ap1_product ap1_open ap1_due ap1_life ap1_byDue ap1_had ap1_stamps, rI cI ap1_customer 40 cp1_customer, rI cI ap1_product 40 cp1_product, rI cI ap1_open 40 cp1_open, rI cI ap1_due 40 cp1_due, rI cI ap1_life 40 cp1_life, rI cI ap1_byDue 40 cp1_byDue, rI cI ap1_had 960 cp1_had, rI cI ap1_stamps 960 cp1_stamps] s.heap.size = A at hD hAB ⊢
  have hA : ∀ q : Nat, s.heap.size ≤ q → A q := fun q h => by rw [← hAe]; exact Or.inr h
  have hFa := hA
  have hS : va_S A s.heap s.heap [] := va_S.rf
  have hBn := fun (H : Heap) (locs : List Loc) (h : va_S A s.heap H locs) => Nat.le_trans hB0 h.1
  have hEn := fun (H : Heap) (locs : List Loc) (h : va_S A s.heap H locs) => gE_now hE h hAB
  have hl := lv_entry ([.ref a0, .ref ap1]) (n := 2) (Nat.le_of_ble_eq_true rfl)
  rw [lg_entry_eq]
  generalize (lg_sl ([.ref a0, .ref ap1]) ++ List.replicate (2 - (lg_sl ([.ref a0, .ref ap1])).length) Slot.unset).toArray = ls at hl ⊢
  have hl : lv_has ls 2 [(0, .ref a0), (1, .ref ap1)] := hl
  obtain ⟨H, hHe⟩ : ∃ H : Heap, H = s.heap := ⟨_, rfl⟩
  have hP : va_P D vwCl [oX2 a0 c_count c_gifts a_customer a_product a_open a_due a_life a_byDue a_had a_stamps, rI cI a_customer 40 c_customer, rI cI a_product 40 c_product, rI cI a_open 40 c_open, rI cI a_due 40 c_due, rI cI a_life 40 c_life, rI cI a_byDue 40 c_byDue, rI cI a_had 960 c_had, rI cI a_stamps 960 c_stamps, oX2 ap1 cp1_count cp1_gifts ap1_customer ap1_product ap1_open ap1_due ap1_life ap1_byDue ap1_had ap1_stamps, rI cI ap1_customer 40 cp1_customer, rI cI ap1_product 40 cp1_product, rI cI ap1_open 40 cp1_open, rI cI ap1_due 40 cp1_due, rI cI ap1_life 40 cp1_life, rI cI ap1_byDue 40 cp1_byDue, rI cI ap1_had 960 cp1_had, rI cI ap1_stamps 960 cp1_stamps] H := by rw [hHe]; exact hP
  have hS : va_S A s.heap H [] := by rw [hHe]; exact hS
  refine W_heq hHe ?_
  unfold f_X2_copyFrom at hf
  refine lv_aload_n hx hb dX2_copyFrom_0 rfl (lv_at hl 0 rfl) ?_
  refine lv_aload_n hx hb dX2_copyFrom_1 rfl (lv_at hl 1 rfl) ?_
  refine va_get (D := D) (ci := 1) (v := .int cp1_count) (C := RX2) (T := TX2) (N := 10) hx hb hts (fun w h => mb (iX2 w h)) hown hK hP 9 rfl rfl 0 (by decide) (hts _ (mb tb_124)) (fun _ h9 => h9) rfl dX2_copyFrom_2 ?_
  refine va_put (D := D) (ci := 1) (v := .int cp1_count) (ty := .int) (C := RX2) (T := TX2) (N := 10) hx hb hts (fun w h => mb (iX2 w h)) tyX2 tyX2_ok nmX2 hown hK hP hD hS 0 rfl rfl 0 (by decide) (hts _ (mb tb_124)) (fun _ h9 => h9) rfl (by decide +kernel) rfl rfl (Nat.le_of_ble_eq_true rfl) dX2_copyFrom_5 (fun H locs hP hD hS => ?_)
  have hP : va_P D vwCl [oX2 a0 cp1_count c_gifts a_customer a_product a_open a_due a_life a_byDue a_had a_stamps, rI cI a_customer 40 c_customer, rI cI a_product 40 c_product, rI cI a_open 40 c_open, rI cI a_due 40 c_due, rI cI a_life 40 c_life, rI cI a_byDue 40 c_byDue, rI cI a_had 960 c_had, rI cI a_stamps 960 c_stamps, oX2 ap1 cp1_count cp1_gifts ap1_customer ap1_product ap1_open ap1_due ap1_life ap1_byDue ap1_had ap1_stamps, rI cI ap1_customer 40 cp1_customer, rI cI ap1_product 40 cp1_product, rI cI ap1_open 40 cp1_open, rI cI ap1_due 40 cp1_due, rI cI ap1_life 40 cp1_life, rI cI ap1_byDue 40 cp1_byDue, rI cI ap1_had 960 cp1_had, rI cI ap1_stamps 960 cp1_stamps] H := hP
  have hD : va_D A [oX2 a0 cp1_count c_gifts a_customer a_product a_open a_due a_life a_byDue a_had a_stamps, rI cI a_customer 40 c_customer, rI cI a_product 40 c_product, rI cI a_open 40 c_open, rI cI a_due 40 c_due, rI cI a_life 40 c_life, rI cI a_byDue 40 c_byDue, rI cI a_had 960 c_had, rI cI a_stamps 960 c_stamps, oX2 ap1 cp1_count cp1_gifts ap1_customer ap1_product ap1_open ap1_due ap1_life ap1_byDue ap1_had ap1_stamps, rI cI ap1_customer 40 cp1_customer, rI cI ap1_product 40 cp1_product, rI cI ap1_open 40 cp1_open, rI cI ap1_due 40 cp1_due, rI cI ap1_life 40 cp1_life, rI cI ap1_byDue 40 cp1_byDue, rI cI ap1_had 960 cp1_had, rI cI ap1_stamps 960 cp1_stamps] := hD
  refine lv_aload_n hx hb dX2_copyFrom_8 rfl (lv_at hl 0 rfl) ?_
  refine lv_aload_n hx hb dX2_copyFrom_9 rfl (lv_at hl 1 rfl) ?_
  refine va_get (D := D) (ci := 1) (v := .int cp1_gifts) (C := RX2) (T := TX2) (N := 10) hx hb hts (fun w h => mb (iX2 w h)) hown hK hP 9 rfl rfl 1 (by decide) (hts _ (mb tb_126)) (fun _ h9 => h9) rfl dX2_copyFrom_10 ?_
  refine va_put (D := D) (ci := 1) (v := .int cp1_gifts) (ty := .int) (C := RX2) (T := TX2) (N := 10) hx hb hts (fun w h => mb (iX2 w h)) tyX2 tyX2_ok nmX2 hown hK hP hD hS 0 rfl rfl 1 (by decide) (hts _ (mb tb_126)) (fun _ h9 => h9) rfl (by decide +kernel) rfl rfl (Nat.le_of_ble_eq_true rfl) dX2_copyFrom_13 (fun H locs hP hD hS => ?_)
  have hP : va_P D vwCl [oX2 a0 cp1_count cp1_gifts a_customer a_product a_open a_due a_life a_byDue a_had a_stamps, rI cI a_customer 40 c_customer, rI cI a_product 40 c_product, rI cI a_open 40 c_open, rI cI a_due 40 c_due, rI cI a_life 40 c_life, rI cI a_byDue 40 c_byDue, rI cI a_had 960 c_had, rI cI a_stamps 960 c_stamps, oX2 ap1 cp1_count cp1_gifts ap1_customer ap1_product ap1_open ap1_due ap1_life ap1_byDue ap1_had ap1_stamps, rI cI ap1_customer 40 cp1_customer, rI cI ap1_product 40 cp1_product, rI cI ap1_open 40 cp1_open, rI cI ap1_due 40 cp1_due, rI cI ap1_life 40 cp1_life, rI cI ap1_byDue 40 cp1_byDue, rI cI ap1_had 960 cp1_had, rI cI ap1_stamps 960 cp1_stamps] H := hP
  have hD : va_D A [oX2 a0 cp1_count cp1_gifts a_customer a_product a_open a_due a_life a_byDue a_had a_stamps, rI cI a_customer 40 c_customer, rI cI a_product 40 c_product, rI cI a_open 40 c_open, rI cI a_due 40 c_due, rI cI a_life 40 c_life, rI cI a_byDue 40 c_byDue, rI cI a_had 960 c_had, rI cI a_stamps 960 c_stamps, oX2 ap1 cp1_count cp1_gifts ap1_customer ap1_product ap1_open ap1_due ap1_life ap1_byDue ap1_had ap1_stamps, rI cI ap1_customer 40 cp1_customer, rI cI ap1_product 40 cp1_product, rI cI ap1_open 40 cp1_open, rI cI ap1_due 40 cp1_due, rI cI ap1_life 40 cp1_life, rI cI ap1_byDue 40 cp1_byDue, rI cI ap1_had 960 cp1_had, rI cI ap1_stamps 960 cp1_stamps] := hD
  refine lv_aload_n hx hb dX2_copyFrom_16 rfl (lv_at hl 1 rfl) ?_
  refine va_get (D := D) (ci := 1) (v := .ref ap1_customer) (C := RX2) (T := TX2) (N := 10) hx hb hts (fun w h => mb (iX2 w h)) hown hK hP 9 rfl rfl 2 (by decide) (hts _ (mb tb_127)) (fun _ h9 => h9) rfl dX2_copyFrom_17 ?_
  refine lv_iconst (v := 0) hx hb dX2_copyFrom_20 (by decide) ?_
  refine lv_aload_n hx hb dX2_copyFrom_21 rfl (lv_at hl 0 rfl) ?_
  refine va_get (D := D) (ci := 1) (v := .ref a_customer) (C := RX2) (T := TX2) (N := 10) hx hb hts (fun w h => mb (iX2 w h)) hown hK hP 0 rfl rfl 2 (by decide) (hts _ (mb tb_127)) (fun _ h9 => h9) rfl dX2_copyFrom_22 ?_
  refine lv_iconst (v := 0) hx hb dX2_copyFrom_25 (by decide) ?_
  refine lv_aload_n hx hb dX2_copyFrom_26 rfl (lv_at hl 0 rfl) ?_
  refine va_get (D := D) (ci := 1) (v := .ref a_customer) (C := RX2) (T := TX2) (N := 10) hx hb hts (fun w h => mb (iX2 w h)) hown hK hP 0 rfl rfl 2 (by decide) (hts _ (mb tb_127)) (fun _ h9 => h9) rfl dX2_copyFrom_27 ?_
  refine va_alen (v := 40) hx hb hK hP 1 0 rfl rfl rfl dX2_copyFrom_30 ?_
  refine va_copyi (ty := .int) hx hb (hml.trans hl.1.symm) hown (hts _ (mb tb_450)) (hts _ (mb tb_435)) (hts _ (mb tb_434)) (hts _ (mb tb_14)) hK hP hD hS 10 1 0 0 rfl rfl rfl rfl rfl (by decide) (by decide) (by decide) (by decide) (by decide) (fun _ _ => rfl) (Nat.le_of_ble_eq_true rfl) (Nat.le_of_ble_eq_true rfl) dX2_copyFrom_31 (fun H locs hP hD hS => ?_)
  have hP : va_P D vwCl [oX2 a0 cp1_count cp1_gifts a_customer a_product a_open a_due a_life a_byDue a_had a_stamps, rI cI a_customer 40 (va_cpy cp1_customer c_customer (0 : Int32).toNatClampNeg (0 : Int32).toNatClampNeg (40 : Int32).toNatClampNeg), rI cI a_product 40 c_product, rI cI a_open 40 c_open, rI cI a_due 40 c_due, rI cI a_life 40 c_life, rI cI a_byDue 40 c_byDue, rI cI a_had 960 c_had, rI cI a_stamps 960 c_stamps, oX2 ap1 cp1_count cp1_gifts ap1_customer ap1_product ap1_open ap1_due ap1_life ap1_byDue ap1_had ap1_stamps, rI cI ap1_customer 40 cp1_customer, rI cI ap1_product 40 cp1_product, rI cI ap1_open 40 cp1_open, rI cI ap1_due 40 cp1_due, rI cI ap1_life 40 cp1_life, rI cI ap1_byDue 40 cp1_byDue, rI cI ap1_had 960 cp1_had, rI cI ap1_stamps 960 cp1_stamps] H := hP
  have hD : va_D A [oX2 a0 cp1_count cp1_gifts a_customer a_product a_open a_due a_life a_byDue a_had a_stamps, rI cI a_customer 40 (va_cpy cp1_customer c_customer (0 : Int32).toNatClampNeg (0 : Int32).toNatClampNeg (40 : Int32).toNatClampNeg), rI cI a_product 40 c_product, rI cI a_open 40 c_open, rI cI a_due 40 c_due, rI cI a_life 40 c_life, rI cI a_byDue 40 c_byDue, rI cI a_had 960 c_had, rI cI a_stamps 960 c_stamps, oX2 ap1 cp1_count cp1_gifts ap1_customer ap1_product ap1_open ap1_due ap1_life ap1_byDue ap1_had ap1_stamps, rI cI ap1_customer 40 cp1_customer, rI cI ap1_product 40 cp1_product, rI cI ap1_open 40 cp1_open, rI cI ap1_due 40 cp1_due, rI cI ap1_life 40 cp1_life, rI cI ap1_byDue 40 cp1_byDue, rI cI ap1_had 960 cp1_had, rI cI ap1_stamps 960 cp1_stamps] := hD
  refine lv_aload_n hx hb dX2_copyFrom_34 rfl (lv_at hl 1 rfl) ?_
  refine va_get (D := D) (ci := 1) (v := .ref ap1_product) (C := RX2) (T := TX2) (N := 10) hx hb hts (fun w h => mb (iX2 w h)) hown hK hP 9 rfl rfl 3 (by decide) (hts _ (mb tb_129)) (fun _ h9 => h9) rfl dX2_copyFrom_35 ?_
  refine lv_iconst (v := 0) hx hb dX2_copyFrom_38 (by decide) ?_
  refine lv_aload_n hx hb dX2_copyFrom_39 rfl (lv_at hl 0 rfl) ?_
  refine va_get (D := D) (ci := 1) (v := .ref a_product) (C := RX2) (T := TX2) (N := 10) hx hb hts (fun w h => mb (iX2 w h)) hown hK hP 0 rfl rfl 3 (by decide) (hts _ (mb tb_129)) (fun _ h9 => h9) rfl dX2_copyFrom_40 ?_
  refine lv_iconst (v := 0) hx hb dX2_copyFrom_43 (by decide) ?_
  refine lv_aload_n hx hb dX2_copyFrom_44 rfl (lv_at hl 0 rfl) ?_
  refine va_get (D := D) (ci := 1) (v := .ref a_product) (C := RX2) (T := TX2) (N := 10) hx hb hts (fun w h => mb (iX2 w h)) hown hK hP 0 rfl rfl 3 (by decide) (hts _ (mb tb_129)) (fun _ h9 => h9) rfl dX2_copyFrom_45 ?_
  refine va_alen (v := 40) hx hb hK hP 2 0 rfl rfl rfl dX2_copyFrom_48 ?_
  refine va_copyi (ty := .int) hx hb (hml.trans hl.1.symm) hown (hts _ (mb tb_450)) (hts _ (mb tb_435)) (hts _ (mb tb_434)) (hts _ (mb tb_14)) hK hP hD hS 11 2 0 0 rfl rfl rfl rfl rfl (by decide) (by decide) (by decide) (by decide) (by decide) (fun _ _ => rfl) (Nat.le_of_ble_eq_true rfl) (Nat.le_of_ble_eq_true rfl) dX2_copyFrom_49 (fun H locs hP hD hS => ?_)
  have hP : va_P D vwCl [oX2 a0 cp1_count cp1_gifts a_customer a_product a_open a_due a_life a_byDue a_had a_stamps, rI cI a_customer 40 (va_cpy cp1_customer c_customer (0 : Int32).toNatClampNeg (0 : Int32).toNatClampNeg (40 : Int32).toNatClampNeg), rI cI a_product 40 (va_cpy cp1_product c_product (0 : Int32).toNatClampNeg (0 : Int32).toNatClampNeg (40 : Int32).toNatClampNeg), rI cI a_open 40 c_open, rI cI a_due 40 c_due, rI cI a_life 40 c_life, rI cI a_byDue 40 c_byDue, rI cI a_had 960 c_had, rI cI a_stamps 960 c_stamps, oX2 ap1 cp1_count cp1_gifts ap1_customer ap1_product ap1_open ap1_due ap1_life ap1_byDue ap1_had ap1_stamps, rI cI ap1_customer 40 cp1_customer, rI cI ap1_product 40 cp1_product, rI cI ap1_open 40 cp1_open, rI cI ap1_due 40 cp1_due, rI cI ap1_life 40 cp1_life, rI cI ap1_byDue 40 cp1_byDue, rI cI ap1_had 960 cp1_had, rI cI ap1_stamps 960 cp1_stamps] H := hP
  have hD : va_D A [oX2 a0 cp1_count cp1_gifts a_customer a_product a_open a_due a_life a_byDue a_had a_stamps, rI cI a_customer 40 (va_cpy cp1_customer c_customer (0 : Int32).toNatClampNeg (0 : Int32).toNatClampNeg (40 : Int32).toNatClampNeg), rI cI a_product 40 (va_cpy cp1_product c_product (0 : Int32).toNatClampNeg (0 : Int32).toNatClampNeg (40 : Int32).toNatClampNeg), rI cI a_open 40 c_open, rI cI a_due 40 c_due, rI cI a_life 40 c_life, rI cI a_byDue 40 c_byDue, rI cI a_had 960 c_had, rI cI a_stamps 960 c_stamps, oX2 ap1 cp1_count cp1_gifts ap1_customer ap1_product ap1_open ap1_due ap1_life ap1_byDue ap1_had ap1_stamps, rI cI ap1_customer 40 cp1_customer, rI cI ap1_product 40 cp1_product, rI cI ap1_open 40 cp1_open, rI cI ap1_due 40 cp1_due, rI cI ap1_life 40 cp1_life, rI cI ap1_byDue 40 cp1_byDue, rI cI ap1_had 960 cp1_had, rI cI ap1_stamps 960 cp1_stamps] := hD
  refine lv_aload_n hx hb dX2_copyFrom_52 rfl (lv_at hl 1 rfl) ?_
  refine va_get (D := D) (ci := 1) (v := .ref ap1_open) (C := RX2) (T := TX2) (N := 10) hx hb hts (fun w h => mb (iX2 w h)) hown hK hP 9 rfl rfl 4 (by decide) (hts _ (mb tb_131)) (fun _ h9 => h9) rfl dX2_copyFrom_53 ?_
  refine lv_iconst (v := 0) hx hb dX2_copyFrom_56 (by decide) ?_
  refine lv_aload_n hx hb dX2_copyFrom_57 rfl (lv_at hl 0 rfl) ?_
  refine va_get (D := D) (ci := 1) (v := .ref a_open) (C := RX2) (T := TX2) (N := 10) hx hb hts (fun w h => mb (iX2 w h)) hown hK hP 0 rfl rfl 4 (by decide) (hts _ (mb tb_131)) (fun _ h9 => h9) rfl dX2_copyFrom_58 ?_
  refine lv_iconst (v := 0) hx hb dX2_copyFrom_61 (by decide) ?_
  refine lv_aload_n hx hb dX2_copyFrom_62 rfl (lv_at hl 0 rfl) ?_
  refine va_get (D := D) (ci := 1) (v := .ref a_open) (C := RX2) (T := TX2) (N := 10) hx hb hts (fun w h => mb (iX2 w h)) hown hK hP 0 rfl rfl 4 (by decide) (hts _ (mb tb_131)) (fun _ h9 => h9) rfl dX2_copyFrom_63 ?_
  refine va_alen (v := 40) hx hb hK hP 3 0 rfl rfl rfl dX2_copyFrom_66 ?_
  refine va_copyi (ty := .int) hx hb (hml.trans hl.1.symm) hown (hts _ (mb tb_450)) (hts _ (mb tb_435)) (hts _ (mb tb_434)) (hts _ (mb tb_14)) hK hP hD hS 12 3 0 0 rfl rfl rfl rfl rfl (by decide) (by decide) (by decide) (by decide) (by decide) (fun _ _ => rfl) (Nat.le_of_ble_eq_true rfl) (Nat.le_of_ble_eq_true rfl) dX2_copyFrom_67 (fun H locs hP hD hS => ?_)
  have hP : va_P D vwCl [oX2 a0 cp1_count cp1_gifts a_customer a_product a_open a_due a_life a_byDue a_had a_stamps, rI cI a_customer 40 (va_cpy cp1_customer c_customer (0 : Int32).toNatClampNeg (0 : Int32).toNatClampNeg (40 : Int32).toNatClampNeg), rI cI a_product 40 (va_cpy cp1_product c_product (0 : Int32).toNatClampNeg (0 : Int32).toNatClampNeg (40 : Int32).toNatClampNeg), rI cI a_open 40 (va_cpy cp1_open c_open (0 : Int32).toNatClampNeg (0 : Int32).toNatClampNeg (40 : Int32).toNatClampNeg), rI cI a_due 40 c_due, rI cI a_life 40 c_life, rI cI a_byDue 40 c_byDue, rI cI a_had 960 c_had, rI cI a_stamps 960 c_stamps, oX2 ap1 cp1_count cp1_gifts ap1_customer ap1_product ap1_open ap1_due ap1_life ap1_byDue ap1_had ap1_stamps, rI cI ap1_customer 40 cp1_customer, rI cI ap1_product 40 cp1_product, rI cI ap1_open 40 cp1_open, rI cI ap1_due 40 cp1_due, rI cI ap1_life 40 cp1_life, rI cI ap1_byDue 40 cp1_byDue, rI cI ap1_had 960 cp1_had, rI cI ap1_stamps 960 cp1_stamps] H := hP
  have hD : va_D A [oX2 a0 cp1_count cp1_gifts a_customer a_product a_open a_due a_life a_byDue a_had a_stamps, rI cI a_customer 40 (va_cpy cp1_customer c_customer (0 : Int32).toNatClampNeg (0 : Int32).toNatClampNeg (40 : Int32).toNatClampNeg), rI cI a_product 40 (va_cpy cp1_product c_product (0 : Int32).toNatClampNeg (0 : Int32).toNatClampNeg (40 : Int32).toNatClampNeg), rI cI a_open 40 (va_cpy cp1_open c_open (0 : Int32).toNatClampNeg (0 : Int32).toNatClampNeg (40 : Int32).toNatClampNeg), rI cI a_due 40 c_due, rI cI a_life 40 c_life, rI cI a_byDue 40 c_byDue, rI cI a_had 960 c_had, rI cI a_stamps 960 c_stamps, oX2 ap1 cp1_count cp1_gifts ap1_customer ap1_product ap1_open ap1_due ap1_life ap1_byDue ap1_had ap1_stamps, rI cI ap1_customer 40 cp1_customer, rI cI ap1_product 40 cp1_product, rI cI ap1_open 40 cp1_open, rI cI ap1_due 40 cp1_due, rI cI ap1_life 40 cp1_life, rI cI ap1_byDue 40 cp1_byDue, rI cI ap1_had 960 cp1_had, rI cI ap1_stamps 960 cp1_stamps] := hD
  refine lv_aload_n hx hb dX2_copyFrom_70 rfl (lv_at hl 1 rfl) ?_
  refine va_get (D := D) (ci := 1) (v := .ref ap1_due) (C := RX2) (T := TX2) (N := 10) hx hb hts (fun w h => mb (iX2 w h)) hown hK hP 9 rfl rfl 5 (by decide) (hts _ (mb tb_133)) (fun _ h9 => h9) rfl dX2_copyFrom_71 ?_
  refine lv_iconst (v := 0) hx hb dX2_copyFrom_74 (by decide) ?_
  refine lv_aload_n hx hb dX2_copyFrom_75 rfl (lv_at hl 0 rfl) ?_
  refine va_get (D := D) (ci := 1) (v := .ref a_due) (C := RX2) (T := TX2) (N := 10) hx hb hts (fun w h => mb (iX2 w h)) hown hK hP 0 rfl rfl 5 (by decide) (hts _ (mb tb_133)) (fun _ h9 => h9) rfl dX2_copyFrom_76 ?_
  refine lv_iconst (v := 0) hx hb dX2_copyFrom_79 (by decide) ?_
  refine lv_aload_n hx hb dX2_copyFrom_80 rfl (lv_at hl 0 rfl) ?_
  refine va_get (D := D) (ci := 1) (v := .ref a_due) (C := RX2) (T := TX2) (N := 10) hx hb hts (fun w h => mb (iX2 w h)) hown hK hP 0 rfl rfl 5 (by decide) (hts _ (mb tb_133)) (fun _ h9 => h9) rfl dX2_copyFrom_81 ?_
  refine va_alen (v := 40) hx hb hK hP 4 0 rfl rfl rfl dX2_copyFrom_84 ?_
  refine va_copyi (ty := .int) hx hb (hml.trans hl.1.symm) hown (hts _ (mb tb_450)) (hts _ (mb tb_435)) (hts _ (mb tb_434)) (hts _ (mb tb_14)) hK hP hD hS 13 4 0 0 rfl rfl rfl rfl rfl (by decide) (by decide) (by decide) (by decide) (by decide) (fun _ _ => rfl) (Nat.le_of_ble_eq_true rfl) (Nat.le_of_ble_eq_true rfl) dX2_copyFrom_85 (fun H locs hP hD hS => ?_)
  have hP : va_P D vwCl [oX2 a0 cp1_count cp1_gifts a_customer a_product a_open a_due a_life a_byDue a_had a_stamps, rI cI a_customer 40 (va_cpy cp1_customer c_customer (0 : Int32).toNatClampNeg (0 : Int32).toNatClampNeg (40 : Int32).toNatClampNeg), rI cI a_product 40 (va_cpy cp1_product c_product (0 : Int32).toNatClampNeg (0 : Int32).toNatClampNeg (40 : Int32).toNatClampNeg), rI cI a_open 40 (va_cpy cp1_open c_open (0 : Int32).toNatClampNeg (0 : Int32).toNatClampNeg (40 : Int32).toNatClampNeg), rI cI a_due 40 (va_cpy cp1_due c_due (0 : Int32).toNatClampNeg (0 : Int32).toNatClampNeg (40 : Int32).toNatClampNeg), rI cI a_life 40 c_life, rI cI a_byDue 40 c_byDue, rI cI a_had 960 c_had, rI cI a_stamps 960 c_stamps, oX2 ap1 cp1_count cp1_gifts ap1_customer ap1_product ap1_open ap1_due ap1_life ap1_byDue ap1_had ap1_stamps, rI cI ap1_customer 40 cp1_customer, rI cI ap1_product 40 cp1_product, rI cI ap1_open 40 cp1_open, rI cI ap1_due 40 cp1_due, rI cI ap1_life 40 cp1_life, rI cI ap1_byDue 40 cp1_byDue, rI cI ap1_had 960 cp1_had, rI cI ap1_stamps 960 cp1_stamps] H := hP
  have hD : va_D A [oX2 a0 cp1_count cp1_gifts a_customer a_product a_open a_due a_life a_byDue a_had a_stamps, rI cI a_customer 40 (va_cpy cp1_customer c_customer (0 : Int32).toNatClampNeg (0 : Int32).toNatClampNeg (40 : Int32).toNatClampNeg), rI cI a_product 40 (va_cpy cp1_product c_product (0 : Int32).toNatClampNeg (0 : Int32).toNatClampNeg (40 : Int32).toNatClampNeg), rI cI a_open 40 (va_cpy cp1_open c_open (0 : Int32).toNatClampNeg (0 : Int32).toNatClampNeg (40 : Int32).toNatClampNeg), rI cI a_due 40 (va_cpy cp1_due c_due (0 : Int32).toNatClampNeg (0 : Int32).toNatClampNeg (40 : Int32).toNatClampNeg), rI cI a_life 40 c_life, rI cI a_byDue 40 c_byDue, rI cI a_had 960 c_had, rI cI a_stamps 960 c_stamps, oX2 ap1 cp1_count cp1_gifts ap1_customer ap1_product ap1_open ap1_due ap1_life ap1_byDue ap1_had ap1_stamps, rI cI ap1_customer 40 cp1_customer, rI cI ap1_product 40 cp1_product, rI cI ap1_open 40 cp1_open, rI cI ap1_due 40 cp1_due, rI cI ap1_life 40 cp1_life, rI cI ap1_byDue 40 cp1_byDue, rI cI ap1_had 960 cp1_had, rI cI ap1_stamps 960 cp1_stamps] := hD
  refine lv_aload_n hx hb dX2_copyFrom_88 rfl (lv_at hl 1 rfl) ?_
  refine va_get (D := D) (ci := 1) (v := .ref ap1_life) (C := RX2) (T := TX2) (N := 10) hx hb hts (fun w h => mb (iX2 w h)) hown hK hP 9 rfl rfl 6 (by decide) (hts _ (mb tb_135)) (fun _ h9 => h9) rfl dX2_copyFrom_89 ?_
  refine lv_iconst (v := 0) hx hb dX2_copyFrom_92 (by decide) ?_
  refine lv_aload_n hx hb dX2_copyFrom_93 rfl (lv_at hl 0 rfl) ?_
  refine va_get (D := D) (ci := 1) (v := .ref a_life) (C := RX2) (T := TX2) (N := 10) hx hb hts (fun w h => mb (iX2 w h)) hown hK hP 0 rfl rfl 6 (by decide) (hts _ (mb tb_135)) (fun _ h9 => h9) rfl dX2_copyFrom_94 ?_
  refine lv_iconst (v := 0) hx hb dX2_copyFrom_97 (by decide) ?_
  refine lv_aload_n hx hb dX2_copyFrom_98 rfl (lv_at hl 0 rfl) ?_
  refine va_get (D := D) (ci := 1) (v := .ref a_life) (C := RX2) (T := TX2) (N := 10) hx hb hts (fun w h => mb (iX2 w h)) hown hK hP 0 rfl rfl 6 (by decide) (hts _ (mb tb_135)) (fun _ h9 => h9) rfl dX2_copyFrom_99 ?_
  refine va_alen (v := 40) hx hb hK hP 5 0 rfl rfl rfl dX2_copyFrom_102 ?_
  refine va_copyi (ty := .int) hx hb (hml.trans hl.1.symm) hown (hts _ (mb tb_450)) (hts _ (mb tb_435)) (hts _ (mb tb_434)) (hts _ (mb tb_14)) hK hP hD hS 14 5 0 0 rfl rfl rfl rfl rfl (by decide) (by decide) (by decide) (by decide) (by decide) (fun _ _ => rfl) (Nat.le_of_ble_eq_true rfl) (Nat.le_of_ble_eq_true rfl) dX2_copyFrom_103 (fun H locs hP hD hS => ?_)
  have hP : va_P D vwCl [oX2 a0 cp1_count cp1_gifts a_customer a_product a_open a_due a_life a_byDue a_had a_stamps, rI cI a_customer 40 (va_cpy cp1_customer c_customer (0 : Int32).toNatClampNeg (0 : Int32).toNatClampNeg (40 : Int32).toNatClampNeg), rI cI a_product 40 (va_cpy cp1_product c_product (0 : Int32).toNatClampNeg (0 : Int32).toNatClampNeg (40 : Int32).toNatClampNeg), rI cI a_open 40 (va_cpy cp1_open c_open (0 : Int32).toNatClampNeg (0 : Int32).toNatClampNeg (40 : Int32).toNatClampNeg), rI cI a_due 40 (va_cpy cp1_due c_due (0 : Int32).toNatClampNeg (0 : Int32).toNatClampNeg (40 : Int32).toNatClampNeg), rI cI a_life 40 (va_cpy cp1_life c_life (0 : Int32).toNatClampNeg (0 : Int32).toNatClampNeg (40 : Int32).toNatClampNeg), rI cI a_byDue 40 c_byDue, rI cI a_had 960 c_had, rI cI a_stamps 960 c_stamps, oX2 ap1 cp1_count cp1_gifts ap1_customer ap1_product ap1_open ap1_due ap1_life ap1_byDue ap1_had ap1_stamps, rI cI ap1_customer 40 cp1_customer, rI cI ap1_product 40 cp1_product, rI cI ap1_open 40 cp1_open, rI cI ap1_due 40 cp1_due, rI cI ap1_life 40 cp1_life, rI cI ap1_byDue 40 cp1_byDue, rI cI ap1_had 960 cp1_had, rI cI ap1_stamps 960 cp1_stamps] H := hP
  have hD : va_D A [oX2 a0 cp1_count cp1_gifts a_customer a_product a_open a_due a_life a_byDue a_had a_stamps, rI cI a_customer 40 (va_cpy cp1_customer c_customer (0 : Int32).toNatClampNeg (0 : Int32).toNatClampNeg (40 : Int32).toNatClampNeg), rI cI a_product 40 (va_cpy cp1_product c_product (0 : Int32).toNatClampNeg (0 : Int32).toNatClampNeg (40 : Int32).toNatClampNeg), rI cI a_open 40 (va_cpy cp1_open c_open (0 : Int32).toNatClampNeg (0 : Int32).toNatClampNeg (40 : Int32).toNatClampNeg), rI cI a_due 40 (va_cpy cp1_due c_due (0 : Int32).toNatClampNeg (0 : Int32).toNatClampNeg (40 : Int32).toNatClampNeg), rI cI a_life 40 (va_cpy cp1_life c_life (0 : Int32).toNatClampNeg (0 : Int32).toNatClampNeg (40 : Int32).toNatClampNeg), rI cI a_byDue 40 c_byDue, rI cI a_had 960 c_had, rI cI a_stamps 960 c_stamps, oX2 ap1 cp1_count cp1_gifts ap1_customer ap1_product ap1_open ap1_due ap1_life ap1_byDue ap1_had ap1_stamps, rI cI ap1_customer 40 cp1_customer, rI cI ap1_product 40 cp1_product, rI cI ap1_open 40 cp1_open, rI cI ap1_due 40 cp1_due, rI cI ap1_life 40 cp1_life, rI cI ap1_byDue 40 cp1_byDue, rI cI ap1_had 960 cp1_had, rI cI ap1_stamps 960 cp1_stamps] := hD
  refine lv_aload_n hx hb dX2_copyFrom_106 rfl (lv_at hl 1 rfl) ?_
  refine va_get (D := D) (ci := 1) (v := .ref ap1_byDue) (C := RX2) (T := TX2) (N := 10) hx hb hts (fun w h => mb (iX2 w h)) hown hK hP 9 rfl rfl 7 (by decide) (hts _ (mb tb_136)) (fun _ h9 => h9) rfl dX2_copyFrom_107 ?_
  refine lv_iconst (v := 0) hx hb dX2_copyFrom_110 (by decide) ?_
  refine lv_aload_n hx hb dX2_copyFrom_111 rfl (lv_at hl 0 rfl) ?_
  refine va_get (D := D) (ci := 1) (v := .ref a_byDue) (C := RX2) (T := TX2) (N := 10) hx hb hts (fun w h => mb (iX2 w h)) hown hK hP 0 rfl rfl 7 (by decide) (hts _ (mb tb_136)) (fun _ h9 => h9) rfl dX2_copyFrom_112 ?_
  refine lv_iconst (v := 0) hx hb dX2_copyFrom_115 (by decide) ?_
  refine lv_aload_n hx hb dX2_copyFrom_116 rfl (lv_at hl 0 rfl) ?_
  refine va_get (D := D) (ci := 1) (v := .ref a_byDue) (C := RX2) (T := TX2) (N := 10) hx hb hts (fun w h => mb (iX2 w h)) hown hK hP 0 rfl rfl 7 (by decide) (hts _ (mb tb_136)) (fun _ h9 => h9) rfl dX2_copyFrom_117 ?_
  refine va_alen (v := 40) hx hb hK hP 6 0 rfl rfl rfl dX2_copyFrom_120 ?_
  refine va_copyi (ty := .int) hx hb (hml.trans hl.1.symm) hown (hts _ (mb tb_450)) (hts _ (mb tb_435)) (hts _ (mb tb_434)) (hts _ (mb tb_14)) hK hP hD hS 15 6 0 0 rfl rfl rfl rfl rfl (by decide) (by decide) (by decide) (by decide) (by decide) (fun _ _ => rfl) (Nat.le_of_ble_eq_true rfl) (Nat.le_of_ble_eq_true rfl) dX2_copyFrom_121 (fun H locs hP hD hS => ?_)
  have hP : va_P D vwCl [oX2 a0 cp1_count cp1_gifts a_customer a_product a_open a_due a_life a_byDue a_had a_stamps, rI cI a_customer 40 (va_cpy cp1_customer c_customer (0 : Int32).toNatClampNeg (0 : Int32).toNatClampNeg (40 : Int32).toNatClampNeg), rI cI a_product 40 (va_cpy cp1_product c_product (0 : Int32).toNatClampNeg (0 : Int32).toNatClampNeg (40 : Int32).toNatClampNeg), rI cI a_open 40 (va_cpy cp1_open c_open (0 : Int32).toNatClampNeg (0 : Int32).toNatClampNeg (40 : Int32).toNatClampNeg), rI cI a_due 40 (va_cpy cp1_due c_due (0 : Int32).toNatClampNeg (0 : Int32).toNatClampNeg (40 : Int32).toNatClampNeg), rI cI a_life 40 (va_cpy cp1_life c_life (0 : Int32).toNatClampNeg (0 : Int32).toNatClampNeg (40 : Int32).toNatClampNeg), rI cI a_byDue 40 (va_cpy cp1_byDue c_byDue (0 : Int32).toNatClampNeg (0 : Int32).toNatClampNeg (40 : Int32).toNatClampNeg), rI cI a_had 960 c_had, rI cI a_stamps 960 c_stamps, oX2 ap1 cp1_count cp1_gifts ap1_customer ap1_product ap1_open ap1_due ap1_life ap1_byDue ap1_had ap1_stamps, rI cI ap1_customer 40 cp1_customer, rI cI ap1_product 40 cp1_product, rI cI ap1_open 40 cp1_open, rI cI ap1_due 40 cp1_due, rI cI ap1_life 40 cp1_life, rI cI ap1_byDue 40 cp1_byDue, rI cI ap1_had 960 cp1_had, rI cI ap1_stamps 960 cp1_stamps] H := hP
  have hD : va_D A [oX2 a0 cp1_count cp1_gifts a_customer a_product a_open a_due a_life a_byDue a_had a_stamps, rI cI a_customer 40 (va_cpy cp1_customer c_customer (0 : Int32).toNatClampNeg (0 : Int32).toNatClampNeg (40 : Int32).toNatClampNeg), rI cI a_product 40 (va_cpy cp1_product c_product (0 : Int32).toNatClampNeg (0 : Int32).toNatClampNeg (40 : Int32).toNatClampNeg), rI cI a_open 40 (va_cpy cp1_open c_open (0 : Int32).toNatClampNeg (0 : Int32).toNatClampNeg (40 : Int32).toNatClampNeg), rI cI a_due 40 (va_cpy cp1_due c_due (0 : Int32).toNatClampNeg (0 : Int32).toNatClampNeg (40 : Int32).toNatClampNeg), rI cI a_life 40 (va_cpy cp1_life c_life (0 : Int32).toNatClampNeg (0 : Int32).toNatClampNeg (40 : Int32).toNatClampNeg), rI cI a_byDue 40 (va_cpy cp1_byDue c_byDue (0 : Int32).toNatClampNeg (0 : Int32).toNatClampNeg (40 : Int32).toNatClampNeg), rI cI a_had 960 c_had, rI cI a_stamps 960 c_stamps, oX2 ap1 cp1_count cp1_gifts ap1_customer ap1_product ap1_open ap1_due ap1_life ap1_byDue ap1_had ap1_stamps, rI cI ap1_customer 40 cp1_customer, rI cI ap1_product 40 cp1_product, rI cI ap1_open 40 cp1_open, rI cI ap1_due 40 cp1_due, rI cI ap1_life 40 cp1_life, rI cI ap1_byDue 40 cp1_byDue, rI cI ap1_had 960 cp1_had, rI cI ap1_stamps 960 cp1_stamps] := hD
  refine lv_aload_n hx hb dX2_copyFrom_124 rfl (lv_at hl 1 rfl) ?_
  refine va_get (D := D) (ci := 1) (v := .ref ap1_had) (C := RX2) (T := TX2) (N := 10) hx hb hts (fun w h => mb (iX2 w h)) hown hK hP 9 rfl rfl 8 (by decide) (hts _ (mb tb_138)) (fun _ h9 => h9) rfl dX2_copyFrom_125 ?_
  refine lv_iconst (v := 0) hx hb dX2_copyFrom_128 (by decide) ?_
  refine lv_aload_n hx hb dX2_copyFrom_129 rfl (lv_at hl 0 rfl) ?_
  refine va_get (D := D) (ci := 1) (v := .ref a_had) (C := RX2) (T := TX2) (N := 10) hx hb hts (fun w h => mb (iX2 w h)) hown hK hP 0 rfl rfl 8 (by decide) (hts _ (mb tb_138)) (fun _ h9 => h9) rfl dX2_copyFrom_130 ?_
  refine lv_iconst (v := 0) hx hb dX2_copyFrom_133 (by decide) ?_
  refine lv_aload_n hx hb dX2_copyFrom_134 rfl (lv_at hl 0 rfl) ?_
  refine va_get (D := D) (ci := 1) (v := .ref a_had) (C := RX2) (T := TX2) (N := 10) hx hb hts (fun w h => mb (iX2 w h)) hown hK hP 0 rfl rfl 8 (by decide) (hts _ (mb tb_138)) (fun _ h9 => h9) rfl dX2_copyFrom_135 ?_
  refine va_alen (v := 960) hx hb hK hP 7 0 rfl rfl rfl dX2_copyFrom_138 ?_
  refine va_copyi (ty := .int) hx hb (hml.trans hl.1.symm) hown (hts _ (mb tb_450)) (hts _ (mb tb_435)) (hts _ (mb tb_434)) (hts _ (mb tb_14)) hK hP hD hS 16 7 0 0 rfl rfl rfl rfl rfl (by decide) (by decide) (by decide) (by decide) (by decide) (fun _ _ => rfl) (Nat.le_of_ble_eq_true rfl) (Nat.le_of_ble_eq_true rfl) dX2_copyFrom_139 (fun H locs hP hD hS => ?_)
  have hP : va_P D vwCl [oX2 a0 cp1_count cp1_gifts a_customer a_product a_open a_due a_life a_byDue a_had a_stamps, rI cI a_customer 40 (va_cpy cp1_customer c_customer (0 : Int32).toNatClampNeg (0 : Int32).toNatClampNeg (40 : Int32).toNatClampNeg), rI cI a_product 40 (va_cpy cp1_product c_product (0 : Int32).toNatClampNeg (0 : Int32).toNatClampNeg (40 : Int32).toNatClampNeg), rI cI a_open 40 (va_cpy cp1_open c_open (0 : Int32).toNatClampNeg (0 : Int32).toNatClampNeg (40 : Int32).toNatClampNeg), rI cI a_due 40 (va_cpy cp1_due c_due (0 : Int32).toNatClampNeg (0 : Int32).toNatClampNeg (40 : Int32).toNatClampNeg), rI cI a_life 40 (va_cpy cp1_life c_life (0 : Int32).toNatClampNeg (0 : Int32).toNatClampNeg (40 : Int32).toNatClampNeg), rI cI a_byDue 40 (va_cpy cp1_byDue c_byDue (0 : Int32).toNatClampNeg (0 : Int32).toNatClampNeg (40 : Int32).toNatClampNeg), rI cI a_had 960 (va_cpy cp1_had c_had (0 : Int32).toNatClampNeg (0 : Int32).toNatClampNeg (960 : Int32).toNatClampNeg), rI cI a_stamps 960 c_stamps, oX2 ap1 cp1_count cp1_gifts ap1_customer ap1_product ap1_open ap1_due ap1_life ap1_byDue ap1_had ap1_stamps, rI cI ap1_customer 40 cp1_customer, rI cI ap1_product 40 cp1_product, rI cI ap1_open 40 cp1_open, rI cI ap1_due 40 cp1_due, rI cI ap1_life 40 cp1_life, rI cI ap1_byDue 40 cp1_byDue, rI cI ap1_had 960 cp1_had, rI cI ap1_stamps 960 cp1_stamps] H := hP
  have hD : va_D A [oX2 a0 cp1_count cp1_gifts a_customer a_product a_open a_due a_life a_byDue a_had a_stamps, rI cI a_customer 40 (va_cpy cp1_customer c_customer (0 : Int32).toNatClampNeg (0 : Int32).toNatClampNeg (40 : Int32).toNatClampNeg), rI cI a_product 40 (va_cpy cp1_product c_product (0 : Int32).toNatClampNeg (0 : Int32).toNatClampNeg (40 : Int32).toNatClampNeg), rI cI a_open 40 (va_cpy cp1_open c_open (0 : Int32).toNatClampNeg (0 : Int32).toNatClampNeg (40 : Int32).toNatClampNeg), rI cI a_due 40 (va_cpy cp1_due c_due (0 : Int32).toNatClampNeg (0 : Int32).toNatClampNeg (40 : Int32).toNatClampNeg), rI cI a_life 40 (va_cpy cp1_life c_life (0 : Int32).toNatClampNeg (0 : Int32).toNatClampNeg (40 : Int32).toNatClampNeg), rI cI a_byDue 40 (va_cpy cp1_byDue c_byDue (0 : Int32).toNatClampNeg (0 : Int32).toNatClampNeg (40 : Int32).toNatClampNeg), rI cI a_had 960 (va_cpy cp1_had c_had (0 : Int32).toNatClampNeg (0 : Int32).toNatClampNeg (960 : Int32).toNatClampNeg), rI cI a_stamps 960 c_stamps, oX2 ap1 cp1_count cp1_gifts ap1_customer ap1_product ap1_open ap1_due ap1_life ap1_byDue ap1_had ap1_stamps, rI cI ap1_customer 40 cp1_customer, rI cI ap1_product 40 cp1_product, rI cI ap1_open 40 cp1_open, rI cI ap1_due 40 cp1_due, rI cI ap1_life 40 cp1_life, rI cI ap1_byDue 40 cp1_byDue, rI cI ap1_had 960 cp1_had, rI cI ap1_stamps 960 cp1_stamps] := hD
  refine lv_aload_n hx hb dX2_copyFrom_142 rfl (lv_at hl 1 rfl) ?_
  refine va_get (D := D) (ci := 1) (v := .ref ap1_stamps) (C := RX2) (T := TX2) (N := 10) hx hb hts (fun w h => mb (iX2 w h)) hown hK hP 9 rfl rfl 9 (by decide) (hts _ (mb tb_139)) (fun _ h9 => h9) rfl dX2_copyFrom_143 ?_
  refine lv_iconst (v := 0) hx hb dX2_copyFrom_146 (by decide) ?_
  refine lv_aload_n hx hb dX2_copyFrom_147 rfl (lv_at hl 0 rfl) ?_
  refine va_get (D := D) (ci := 1) (v := .ref a_stamps) (C := RX2) (T := TX2) (N := 10) hx hb hts (fun w h => mb (iX2 w h)) hown hK hP 0 rfl rfl 9 (by decide) (hts _ (mb tb_139)) (fun _ h9 => h9) rfl dX2_copyFrom_148 ?_
  refine lv_iconst (v := 0) hx hb dX2_copyFrom_151 (by decide) ?_
  refine lv_aload_n hx hb dX2_copyFrom_152 rfl (lv_at hl 0 rfl) ?_
  refine va_get (D := D) (ci := 1) (v := .ref a_stamps) (C := RX2) (T := TX2) (N := 10) hx hb hts (fun w h => mb (iX2 w h)) hown hK hP 0 rfl rfl 9 (by decide) (hts _ (mb tb_139)) (fun _ h9 => h9) rfl dX2_copyFrom_153 ?_
  refine va_alen (v := 960) hx hb hK hP 8 0 rfl rfl rfl dX2_copyFrom_156 ?_
  refine va_copyi (ty := .int) hx hb (hml.trans hl.1.symm) hown (hts _ (mb tb_450)) (hts _ (mb tb_435)) (hts _ (mb tb_434)) (hts _ (mb tb_14)) hK hP hD hS 17 8 0 0 rfl rfl rfl rfl rfl (by decide) (by decide) (by decide) (by decide) (by decide) (fun _ _ => rfl) (Nat.le_of_ble_eq_true rfl) (Nat.le_of_ble_eq_true rfl) dX2_copyFrom_157 (fun H locs hP hD hS => ?_)
  have hP : va_P D vwCl [oX2 a0 cp1_count cp1_gifts a_customer a_product a_open a_due a_life a_byDue a_had a_stamps, rI cI a_customer 40 (va_cpy cp1_customer c_customer (0 : Int32).toNatClampNeg (0 : Int32).toNatClampNeg (40 : Int32).toNatClampNeg), rI cI a_product 40 (va_cpy cp1_product c_product (0 : Int32).toNatClampNeg (0 : Int32).toNatClampNeg (40 : Int32).toNatClampNeg), rI cI a_open 40 (va_cpy cp1_open c_open (0 : Int32).toNatClampNeg (0 : Int32).toNatClampNeg (40 : Int32).toNatClampNeg), rI cI a_due 40 (va_cpy cp1_due c_due (0 : Int32).toNatClampNeg (0 : Int32).toNatClampNeg (40 : Int32).toNatClampNeg), rI cI a_life 40 (va_cpy cp1_life c_life (0 : Int32).toNatClampNeg (0 : Int32).toNatClampNeg (40 : Int32).toNatClampNeg), rI cI a_byDue 40 (va_cpy cp1_byDue c_byDue (0 : Int32).toNatClampNeg (0 : Int32).toNatClampNeg (40 : Int32).toNatClampNeg), rI cI a_had 960 (va_cpy cp1_had c_had (0 : Int32).toNatClampNeg (0 : Int32).toNatClampNeg (960 : Int32).toNatClampNeg), rI cI a_stamps 960 (va_cpy cp1_stamps c_stamps (0 : Int32).toNatClampNeg (0 : Int32).toNatClampNeg (960 : Int32).toNatClampNeg), oX2 ap1 cp1_count cp1_gifts ap1_customer ap1_product ap1_open ap1_due ap1_life ap1_byDue ap1_had ap1_stamps, rI cI ap1_customer 40 cp1_customer, rI cI ap1_product 40 cp1_product, rI cI ap1_open 40 cp1_open, rI cI ap1_due 40 cp1_due, rI cI ap1_life 40 cp1_life, rI cI ap1_byDue 40 cp1_byDue, rI cI ap1_had 960 cp1_had, rI cI ap1_stamps 960 cp1_stamps] H := hP
  have hD : va_D A [oX2 a0 cp1_count cp1_gifts a_customer a_product a_open a_due a_life a_byDue a_had a_stamps, rI cI a_customer 40 (va_cpy cp1_customer c_customer (0 : Int32).toNatClampNeg (0 : Int32).toNatClampNeg (40 : Int32).toNatClampNeg), rI cI a_product 40 (va_cpy cp1_product c_product (0 : Int32).toNatClampNeg (0 : Int32).toNatClampNeg (40 : Int32).toNatClampNeg), rI cI a_open 40 (va_cpy cp1_open c_open (0 : Int32).toNatClampNeg (0 : Int32).toNatClampNeg (40 : Int32).toNatClampNeg), rI cI a_due 40 (va_cpy cp1_due c_due (0 : Int32).toNatClampNeg (0 : Int32).toNatClampNeg (40 : Int32).toNatClampNeg), rI cI a_life 40 (va_cpy cp1_life c_life (0 : Int32).toNatClampNeg (0 : Int32).toNatClampNeg (40 : Int32).toNatClampNeg), rI cI a_byDue 40 (va_cpy cp1_byDue c_byDue (0 : Int32).toNatClampNeg (0 : Int32).toNatClampNeg (40 : Int32).toNatClampNeg), rI cI a_had 960 (va_cpy cp1_had c_had (0 : Int32).toNatClampNeg (0 : Int32).toNatClampNeg (960 : Int32).toNatClampNeg), rI cI a_stamps 960 (va_cpy cp1_stamps c_stamps (0 : Int32).toNatClampNeg (0 : Int32).toNatClampNeg (960 : Int32).toNatClampNeg), oX2 ap1 cp1_count cp1_gifts ap1_customer ap1_product ap1_open ap1_due ap1_life ap1_byDue ap1_had ap1_stamps, rI cI ap1_customer 40 cp1_customer, rI cI ap1_product 40 cp1_product, rI cI ap1_open 40 cp1_open, rI cI ap1_due 40 cp1_due, rI cI ap1_life 40 cp1_life, rI cI ap1_byDue 40 cp1_byDue, rI cI ap1_had 960 cp1_had, rI cI ap1_stamps 960 cp1_stamps] := hD
  cases hf
  refine W.widen (k := 0) (n := 0) (Nat.le_of_ble_eq_true rfl) (Nat.le_of_ble_eq_true rfl) ?_
  exact W.vret hx hb hr (fun t ht hW => ⟨⟨(), rfl, trivial, (by show va_P D vwCl _ t.heap; rw [ht]; exact hP)⟩, hS.F ht⟩) hS.2.2 dX2_copyFrom_160
