def f_X1_exists (v1 : Int32) (c_count : Int32) : Option (Int32) :=
  (if v1 < 0 then some 0
  else (if c_count ≤ v1 then some 0
  else (if 24 ≤ v1 then some 0
  else some 1)))
set_option maxHeartbeats 4000000 in
set_option maxRecDepth 100000 in
theorem k_X1_exists (l : Launch) (hl0 : l.stackTraces = false) (D : va_G) (cI cJ cZ cS : ClassId) (B0 : Nat) (H0 : Heap) (a0 a_product a_last a_cost a_state a_byLast : Nat) (c_count : Int32) (v1 : Int32) (r9 : Int32)  (hf : f_X1_exists v1 c_count = some r9) : Met l yX1_exists (wz yX1_exists cX1_exists 2 (some .boolean)) ({ frames := 0, cells := 0, slots := 0, locals := 0 }) (va_Pc [.ref a0, .int v1] (rp D cI cJ cZ cS B0 [oX1 a0 c_count a_product a_last a_cost a_state a_byLast] H0)) (va_Qi (fun (r2 : Int32) (_ : Unit) => r2 = r9) (fun _ t => t.heap = H0) (fun q => H0.size ≤ q)) 0 0 (fun q => H0.size ≤ q) := by
  refine Met.ofW (cc := cX1_exists) (maxL := 2) (ret := (some .boolean)) (by decide) rfl ?_
  intro p e s m args below meth c s₁ B hml hv
  obtain ⟨rfl, hH, hP, hK, hB0, hE⟩ := hv
  subst hH
  have hx := B.exec
  have hb := B.bytes
  have hr := B.returns
  have hts := atoms_spec (ws := (wz yX1_exists cX1_exists 2 (some .boolean))) B.pre
  have hown : s.vm.findClass RX1 = some m.cls := findClass_of_methodNamed B.named
  have hlocks := B.notSynchronized
  have hAB : ∀ q : Nat, s.heap.size ≤ q → B0 ≤ q := fun q h => Nat.le_trans hB0 h
  have hA : ∀ q : Nat, s.heap.size ≤ q → s.heap.size ≤ q := fun _ h => h
  have hS : va_S (fun q => s.heap.size ≤ q) s.heap s.heap [] := va_S.rf
  have hBn := fun (H : Heap) (locs : List Loc) (h : va_S (fun q => s.heap.size ≤ q) s.heap H locs) => Nat.le_trans hB0 h.1
  have hEn := fun (H : Heap) (locs : List Loc) (h : va_S (fun q => s.heap.size ≤ q) s.heap H locs) => gE_now hE h hAB
  have hl := lv_entry ([.ref a0, .int v1]) (n := 2) (Nat.le_of_ble_eq_true rfl)
  rw [lg_entry_eq]
  generalize (lg_sl ([.ref a0, .int v1]) ++ List.replicate (2 - (lg_sl ([.ref a0, .int v1])).length) Slot.unset).toArray = ls at hl ⊢
  have hl : lv_has ls 2 [(0, .ref a0), (1, .int v1)] := hl
  obtain ⟨H, hHe⟩ : ∃ H : Heap, H = s.heap := ⟨_, rfl⟩
  have hP : va_P D vwCl [oX1 a0 c_count a_product a_last a_cost a_state a_byLast] H := by rw [hHe]; exact hP
  have hS : va_S (fun q => s.heap.size ≤ q) s.heap H [] := by rw [hHe]; exact hS
  refine W_heq hHe ?_
  unfold f_X1_exists at hf
  refine lv_iload_n hx hb dX1_exists_0 rfl (lv_at hl 1 rfl) ?_
  refine lv_if_lt (tgt := 22) hx hb dX1_exists_1 (by decide) (fun h1 => ?_) (fun h1 => ?_)
  · have hf := ipos h1 hf
    refine lv_iconst (v := 0) hx hb dX1_exists_22 (by decide) ?_
    cases hf
    exact W.zret hx hb hr rfl (fun t ht hW => ⟨⟨_, (), rfl, rfl, (ht.trans hHe)⟩, hS.F ht⟩) hS.2.2 dX1_exists_23
  · have hf := ineg h1 hf
    refine lv_iload_n hx hb dX1_exists_4 rfl (lv_at hl 1 rfl) ?_
    refine lv_aload_n hx hb dX1_exists_5 rfl (lv_at hl 0 rfl) ?_
    refine va_get (D := D) (ci := 0) (v := .int c_count) (C := RX1) (T := TX1) (N := 6) hx hb hts (fun w h => mb (iX1 w h)) hown hK hP 0 rfl rfl 0 (by decide) (hts _ (mb tb_92)) (fun _ h9 => h9) rfl dX1_exists_6 ?_
    refine lv_icmp_ge (tgt := 22) hx hb dX1_exists_9 (by decide) (fun h2 => ?_) (fun h2 => ?_)
    · have hf := ipos h2 hf
      refine lv_iconst (v := 0) hx hb dX1_exists_22 (by decide) ?_
      cases hf
      exact W.zret hx hb hr rfl (fun t ht hW => ⟨⟨_, (), rfl, rfl, (ht.trans hHe)⟩, hS.F ht⟩) hS.2.2 dX1_exists_23
    · have hf := ineg h2 hf
      refine lv_iload_n hx hb dX1_exists_12 rfl (lv_at hl 1 rfl) ?_
      refine lv_bipush (v := 24) hx hb dX1_exists_13 (by decide) ?_
      refine lv_icmp_ge (tgt := 22) hx hb dX1_exists_15 (by decide) (fun h3 => ?_) (fun h3 => ?_)
      · have hf := ipos h3 hf
        refine lv_iconst (v := 0) hx hb dX1_exists_22 (by decide) ?_
        cases hf
        exact W.zret hx hb hr rfl (fun t ht hW => ⟨⟨_, (), rfl, rfl, (ht.trans hHe)⟩, hS.F ht⟩) hS.2.2 dX1_exists_23
      · have hf := ineg h3 hf
        refine lv_iconst (v := 1) hx hb dX1_exists_18 (by decide) ?_
        refine lv_goto (tgt := 23) hx hb dX1_exists_19 (by decide) ?_
        cases hf
        exact W.zret hx hb hr rfl (fun t ht hW => ⟨⟨_, (), rfl, rfl, (ht.trans hHe)⟩, hS.F ht⟩) hS.2.2 dX1_exists_23
def f_X1_lastOf (v1 : Int32) (c_count : Int32) (c_last : Nat → Int32) : Option (Int32) :=
  bnd1 (f_X1_exists v1 c_count) (fun r1 =>
  ((if r1 = 0 then some (-1)
  else gd v1 24 (some (c_last v1.toNatClampNeg)))))
set_option maxHeartbeats 4000000 in
set_option maxRecDepth 100000 in
theorem k_X1_lastOf (l : Launch) (hl0 : l.stackTraces = false) (D : va_G) (cI cJ cZ cS : ClassId) (B0 : Nat) (H0 : Heap) (a0 a_product a_last a_cost a_state a_byLast : Nat) (c_count : Int32) (c_last : Nat → Int32) (v1 : Int32) (r9 : Int32)  (hf : f_X1_lastOf v1 c_count c_last = some r9) : Met l yX1_lastOf (wz yX1_lastOf cX1_lastOf 2 (some .int)) ({ frames := 1, cells := 0, slots := 0, locals := 21 }) (va_Pc [.ref a0, .int v1] (rp D cI cJ cZ cS B0 [oX1 a0 c_count a_product a_last a_cost a_state a_byLast, rI cI a_last 24 c_last] H0)) (va_Qi (fun (r2 : Int32) (_ : Unit) => r2 = r9) (fun _ t => t.heap = H0) (fun q => H0.size ≤ q)) 0 0 (fun q => H0.size ≤ q) := by
  refine Met.ofW (cc := cX1_lastOf) (maxL := 2) (ret := (some .int)) (by decide) rfl ?_
  intro p e s m args below meth c s₁ B hml hv
  obtain ⟨rfl, hH, hP, hK, hB0, hE⟩ := hv
  subst hH
  have hx := B.exec
  have hb := B.bytes
  have hr := B.returns
  have hts := atoms_spec (ws := (wz yX1_lastOf cX1_lastOf 2 (some .int))) B.pre
  have hown : s.vm.findClass RX1 = some m.cls := findClass_of_methodNamed B.named
  have hlocks := B.notSynchronized
  have hAB : ∀ q : Nat, s.heap.size ≤ q → B0 ≤ q := fun q h => Nat.le_trans hB0 h
  have hA : ∀ q : Nat, s.heap.size ≤ q → s.heap.size ≤ q := fun _ h => h
  have hS : va_S (fun q => s.heap.size ≤ q) s.heap s.heap [] := va_S.rf
  have hBn := fun (H : Heap) (locs : List Loc) (h : va_S (fun q => s.heap.size ≤ q) s.heap H locs) => Nat.le_trans hB0 h.1
  have hEn := fun (H : Heap) (locs : List Loc) (h : va_S (fun q => s.heap.size ≤ q) s.heap H locs) => gE_now hE h hAB
  have hl := lv_entry ([.ref a0, .int v1]) (n := 2) (Nat.le_of_ble_eq_true rfl)
  rw [lg_entry_eq]
  generalize (lg_sl ([.ref a0, .int v1]) ++ List.replicate (2 - (lg_sl ([.ref a0, .int v1])).length) Slot.unset).toArray = ls at hl ⊢
  have hl : lv_has ls 2 [(0, .ref a0), (1, .int v1)] := hl
  obtain ⟨H, hHe⟩ : ∃ H : Heap, H = s.heap := ⟨_, rfl⟩
  have hP : va_P D vwCl [oX1 a0 c_count a_product a_last a_cost a_state a_byLast, rI cI a_last 24 c_last] H := by rw [hHe]; exact hP
  have hS : va_S (fun q => s.heap.size ≤ q) s.heap H [] := by rw [hHe]; exact hS
  refine W_heq hHe ?_
  unfold f_X1_lastOf at hf
  refine lv_aload_n hx hb dX1_lastOf_0 rfl (lv_at hl 0 rfl) ?_
  refine lv_iload_n hx hb dX1_lastOf_1 rfl (lv_at hl 1 rfl) ?_
  obtain ⟨r1, hc2, hf⟩ := ob1 hf
  refine ro_calli (r := r1) (va_runV (As := [.int v1]) (rest := []) ⟨hx, hb, hml, hown, hts⟩ (k_X1_exists l hl0 D cI cJ cZ cS B0 H a0 a_product a_last a_cost a_state a_byLast c_count v1 r1 hc2) (cwV 1 hts (gV tb_542 tb_543 tb_544 tb_4 tb_545) rfl rfl rfl (by decide +kernel) ⟨Nat.le_of_ble_eq_true rfl, Nat.le_of_ble_eq_true rfl⟩) ⟨rp_blind, va_recv hK hP (ci := 0) (q0 := 0) rfl rfl, rp_pre (hP.sub [0] rfl) hK (hBn _ _ hS) (hEn _ _ hS)⟩ rfl rfl hl.1 rfl (lv_room (Nat.le_of_ble_eq_true rfl)) dX1_lastOf_2 ⟨Nat.le_of_ble_eq_true rfl, Nat.le_of_ble_eq_true rfl⟩) ?_
  refine lv_if_eq (tgt := 17) hx hb dX1_lastOf_5 (by decide) (fun h3 => ?_) (fun h3 => ?_)
  · have hf := ipos h3 hf
    refine lv_iconst (v := (-1)) hx hb dX1_lastOf_17 (by decide) ?_
    cases hf
    exact W.iret hx hb hr (fun t ht hW => ⟨⟨_, (), rfl, rfl, (ht.trans hHe)⟩, hS.F ht⟩) hS.2.2 dX1_lastOf_18
  · have hf := ineg h3 hf
    refine lv_aload_n hx hb dX1_lastOf_8 rfl (lv_at hl 0 rfl) ?_
    refine va_get (D := D) (ci := 0) (v := .ref a_last) (C := RX1) (T := TX1) (N := 6) hx hb hts (fun w h => mb (iX1 w h)) hown hK hP 0 rfl rfl 2 (by decide) (hts _ (mb tb_97)) (fun _ h9 => h9) rfl dX1_lastOf_9 ?_
    refine lv_iload_n hx hb dX1_lastOf_12 rfl (lv_at hl 1 rfl) ?_
    obtain ⟨h4, hf⟩ := ob_d hf
    refine va_iald hx hb hK hP 1 0 rfl rfl h4 dX1_lastOf_13 ?_
    refine lv_goto (tgt := 18) hx hb dX1_lastOf_14 (by decide) ?_
    cases hf
    exact W.iret hx hb hr (fun t ht hW => ⟨⟨_, (), rfl, rfl, (ht.trans hHe)⟩, hS.F ht⟩) hS.2.2 dX1_lastOf_18
def f_X1_add_L17 (n1 : Int32) (n2 : Int32) (n3 : Int32) (c_count : Int32) (c_product : Nat → Int32) (c_last : Nat → Int32) (c_cost : Nat → Int32) (c_state : Nat → Int32) (n4 : Int32) (c_byLast : Nat → Int32) : Option ((Int32 × (Nat → Int32)) ⊕ (Int32 × (Nat → Int32))) :=
  (if n4 ≤ 0 then some (.inr (n4, c_byLast))
  else gd (n4 - 1) 24 (bnd1 (f_X1_lastOf (c_byLast (n4 - 1).toNatClampNeg) c_count c_last) (fun r4 =>
  ((if r4 ≤ n2 then some (.inr (n4, c_byLast))
  else gd (n4 - 1) 24 (gd n4 24 (some (.inl (n4 + (-1), upd c_byLast n4.toNatClampNeg (c_byLast (n4 - 1).toNatClampNeg))))))))))
def f_X1_add (v1 : Int32) (v2 : Int32) (v3 : Int32) (c_count : Int32) (c_product : Nat → Int32) (c_last : Nat → Int32) (c_cost : Nat → Int32) (c_state : Nat → Int32) (c_byLast : Nat → Int32) : Option (Int32 × Int32 × (Nat → Int32) × (Nat → Int32) × (Nat → Int32) × (Nat → Int32) × (Nat → Int32)) :=
  (if c_count < 24 then (bnd2 (loop (fun z => f_X1_add_L17 v1 v2 v3 c_count c_product c_last c_cost c_state z.1 z.2) fu (c_count, c_byLast)) fun m10 c11 =>
  gd m10 24 (gd c_count 24 (gd c_count 24 (gd c_count 24 (gd c_count 24 (some ((c_count + 1) - 1, c_count + 1, upd c_product c_count.toNatClampNeg v1, upd c_last c_count.toNatClampNeg v2, upd c_cost c_count.toNatClampNeg v3, upd c_state c_count.toNatClampNeg 0, upd c11 m10.toNatClampNeg c_count)))))))
  else some ((-1), c_count, c_product, c_last, c_cost, c_state, c_byLast))
set_option maxHeartbeats 4000000 in
set_option maxRecDepth 100000 in
theorem k_X1_add (l : Launch) (hl0 : l.stackTraces = false) (D : va_G) (cI cJ cZ cS : ClassId) (B0 : Nat) (sz : Nat) (a0 a_product a_last a_cost a_state a_byLast : Nat) (c_count : Int32) (c_product : Nat → Int32) (c_last : Nat → Int32) (c_cost : Nat → Int32) (c_state : Nat → Int32) (c_byLast : Nat → Int32) (v1 : Int32) (v2 : Int32) (v3 : Int32) (r9 : Int32) (oc_count : Int32) (oc_product : Nat → Int32) (oc_last : Nat → Int32) (oc_cost : Nat → Int32) (oc_state : Nat → Int32) (oc_byLast : Nat → Int32)  (hf : f_X1_add v1 v2 v3 c_count c_product c_last c_cost c_state c_byLast = some (r9, oc_count, oc_product, oc_last, oc_cost, oc_state, oc_byLast)) : Met l yX1_add (wz yX1_add cX1_add 5 (some .int)) ({ frames := 2, cells := 0, slots := 0, locals := 42 }) (va_Pc [.ref a0, .int v1, .int v2, .int v3] (wp D cI cJ cZ cS B0 [oX1 a0 c_count a_product a_last a_cost a_state a_byLast, rI cI a_product 24 c_product, rI cI a_last 24 c_last, rI cI a_cost 24 c_cost, rI cI a_state 24 c_state, rI cI a_byLast 24 c_byLast] sz)) (va_Qi (fun (r2 : Int32) (_ : Unit) => r2 = r9) (fun _ t => va_P D vwCl [oX1 a0 oc_count a_product a_last a_cost a_state a_byLast, rI cI a_product 24 oc_product, rI cI a_last 24 oc_last, rI cI a_cost 24 oc_cost, rI cI a_state 24 oc_state, rI cI a_byLast 24 oc_byLast] t.heap) (va_A [oX1 a0 c_count a_product a_last a_cost a_state a_byLast, rI cI a_product 24 c_product, rI cI a_last 24 c_last, rI cI a_cost 24 c_cost, rI cI a_state 24 c_state, rI cI a_byLast 24 c_byLast] sz)) 0 0 (va_A [oX1 a0 c_count a_product a_last a_cost a_state a_byLast, rI cI a_product 24 c_product, rI cI a_last 24 c_last, rI cI a_cost 24 c_cost, rI cI a_state 24 c_state, rI cI a_byLast 24 c_byLast] sz) := by
  refine Met.ofW (cc := cX1_add) (maxL := 5) (ret := (some .int)) (by decide) rfl ?_
  intro p e s m args below meth c s₁ B hml hv
  obtain ⟨rfl, hsz, hP, hK, hD0, hB0, hE⟩ := hv
  subst hsz
  have hx := B.exec
  have hb := B.bytes
  have hr := B.returns
  have hts := atoms_spec (ws := (wz yX1_add cX1_add 5 (some .int))) B.pre
  have hown : s.vm.findClass RX1 = some m.cls := findClass_of_methodNamed B.named
  have hlocks := B.notSynchronized
  have hD := hD0.self (sz := s.heap.size)
  have hAB : ∀ q : Nat, va_A [oX1 a0 c_count a_product a_last a_cost a_state a_byLast, rI cI a_product 24 c_product, rI cI a_last 24 c_last, rI cI a_cost 24 c_cost, rI cI a_state 24 c_state, rI cI a_byLast 24 c_byLast] s.heap.size q → B0 ≤ q := va_A_B hD0 hB0
  generalize hAe : va_A [oX1 a0 c_count a_product a_last a_cost a_state a_byLast, rI cI a_product 24 c_product, rI cI a_last 24 c_last, rI cI a_cost 24 c_cost, rI cI a_state 24 c_state, rI cI a_byLast 24 c_byLast] s.heap.size = A at hD hAB ⊢
  have hA : ∀ q : Nat, s.heap.size ≤ q → A q := fun q h => by rw [← hAe]; exact Or.inr h
  have hFa := hA
  have hS : va_S A s.heap s.heap [] := va_S.rf
  have hBn := fun (H : Heap) (locs : List Loc) (h : va_S A s.heap H locs) => Nat.le_trans hB0 h.1
  have hEn := fun (H : Heap) (locs : List Loc) (h : va_S A s.heap H locs) => gE_now hE h hAB
  have hl := lv_entry ([.ref a0, .int v1, .int v2, .int v3]) (n := 5) (Nat.le_of_ble_eq_true rfl)
  rw [lg_entry_eq]
  generalize (lg_sl ([.ref a0, .int v1, .int v2, .int v3]) ++ List.replicate (5 - (lg_sl ([.ref a0, .int v1, .int v2, .int v3])).length) Slot.unset).toArray = ls at hl ⊢
  have hl : lv_has ls 5 [(0, .ref a0), (1, .int v1), (2, .int v2), (3, .int v3)] := hl
  obtain ⟨H, hHe⟩ : ∃ H : Heap, H = s.heap := ⟨_, rfl⟩
  have hP : va_P D vwCl [oX1 a0 c_count a_product a_last a_cost a_state a_byLast, rI cI a_product 24 c_product, rI cI a_last 24 c_last, rI cI a_cost 24 c_cost, rI cI a_state 24 c_state, rI cI a_byLast 24 c_byLast] H := by rw [hHe]; exact hP
  have hS : va_S A s.heap H [] := by rw [hHe]; exact hS
  refine W_heq hHe ?_
  unfold f_X1_add at hf
  refine gen_goW (fun WW hWW => ?_)
  have hL17 : ∀ (n : Nat) (n1 : Int32) (n2 : Int32) (n3 : Int32) (c_count : Int32) (c_product : Nat → Int32) (c_last : Nat → Int32) (c_cost : Nat → Int32) (c_state : Nat → Int32) (n4 : Int32) (c_byLast : Nat → Int32) (e4 : Int32) (e_c_byLast : Nat → Int32), loop (fun z => f_X1_add_L17 n1 n2 n3 c_count c_product c_last c_cost c_state z.1 z.2) n (n4, c_byLast) = some (e4, e_c_byLast) → (∀ (H : Heap) (locs : List Loc) (ls : Array Slot), va_P D vwCl [oX1 a0 c_count a_product a_last a_cost a_state a_byLast, rI cI a_product 24 c_product, rI cI a_last 24 c_last, rI cI a_cost 24 c_cost, rI cI a_state 24 c_state, rI cI a_byLast 24 e_c_byLast] H → va_D A [oX1 a0 c_count a_product a_last a_cost a_state a_byLast, rI cI a_product 24 c_product, rI cI a_last 24 c_last, rI cI a_cost 24 c_cost, rI cI a_state 24 c_state, rI cI a_byLast 24 e_c_byLast] → va_S A s.heap H locs → lv_has ls 5 [(0, .ref a0), (1, .int n1), (2, .int n2), (3, .int n3), (4, .int e4)] → WW H locs 0 0 (F0 m 61 ls [])) → ∀ (H : Heap) (locs : List Loc) (ls : Array Slot), va_P D vwCl [oX1 a0 c_count a_product a_last a_cost a_state a_byLast, rI cI a_product 24 c_product, rI cI a_last 24 c_last, rI cI a_cost 24 c_cost, rI cI a_state 24 c_state, rI cI a_byLast 24 c_byLast] H → va_D A [oX1 a0 c_count a_product a_last a_cost a_state a_byLast, rI cI a_product 24 c_product, rI cI a_last 24 c_last, rI cI a_cost 24 c_cost, rI cI a_state 24 c_state, rI cI a_byLast 24 c_byLast] → va_S A s.heap H locs → lv_has ls 5 [(0, .ref a0), (1, .int n1), (2, .int n2), (3, .int n3), (4, .int n4)] → WW H locs 0 0 (F0 m 17 ls []) := by
    intro n
    induction n with
    | zero =>
      intro n1 n2 n3 c_count c_product c_last c_cost c_state n4 c_byLast e4 e_c_byLast hlp
      exact absurd hlp (by simp [loop])
    | succ n ih =>
      intro n1 n2 n3 c_count c_product c_last c_cost c_state n4 c_byLast e4 e_c_byLast hlp K H locs ls hP hD hS hl
      obtain ⟨x9, hf, hlp⟩ := loop_s hlp
      have hf : f_X1_add_L17 n1 n2 n3 c_count c_product c_last c_cost c_state n4 c_byLast = some x9 := hf
      unfold f_X1_add_L17 at hf
      refine (hWW _ _ _ _ _).mpr ?_
      refine lv_iload hx hb dX1_add_17 (lv_at hl 4 rfl) ?_
      refine lv_if_le (tgt := 61) hx hb dX1_add_19 (by decide) (fun h2 => ?_) (fun h2 => ?_)
      · have hf := ipos h2 hf
        obtain rfl := Option.some.inj hf
        cases lpx_r hlp
        exact (hWW _ _ _ _ _).mp (K _ _ ls hP hD hS (lv_sub hl [0, 1, 2, 3, 4] rfl))
      · have hf := ineg h2 hf
        refine lv_aload_n hx hb dX1_add_22 rfl (lv_at hl 0 rfl) ?_
        refine lv_aload_n hx hb dX1_add_23 rfl (lv_at hl 0 rfl) ?_
        refine va_get (D := D) (ci := 0) (v := .ref a_byLast) (C := RX1) (T := TX1) (N := 6) hx hb hts (fun w h => mb (iX1 w h)) hown hK hP 0 rfl rfl 5 (by decide) (hts _ (mb tb_103)) (fun _ h9 => h9) rfl dX1_add_24 ?_
        refine lv_iload hx hb dX1_add_27 (lv_at hl 4 rfl) ?_
        refine lv_iconst (v := 1) hx hb dX1_add_29 (by decide) ?_
        refine lv_isub hx hb dX1_add_30 ?_
        obtain ⟨h3, hf⟩ := ob_d hf
        refine va_iald hx hb hK hP 5 0 rfl rfl h3 dX1_add_31 ?_
        obtain ⟨r4, hc5, hf⟩ := ob1 hf
        refine ro_calli (r := r4) (va_runV (As := [.int (c_byLast (n4 - 1).toNatClampNeg)]) (rest := []) ⟨hx, hb, hml, hown, hts⟩ (k_X1_lastOf l hl0 D cI cJ cZ cS B0 H a0 a_product a_last a_cost a_state a_byLast c_count c_last (c_byLast (n4 - 1).toNatClampNeg) r4 hc5) (cwV 1 hts (gV tb_538 tb_540 ts_8 tb_4 tb_541) rfl rfl rfl (by decide +kernel) ⟨Nat.le_of_ble_eq_true rfl, Nat.le_of_ble_eq_true rfl⟩) ⟨rp_blind, va_recv hK hP (ci := 0) (q0 := 0) rfl rfl, rp_pre (hP.sub [0, 2] rfl) hK (hBn _ _ hS) (hEn _ _ hS)⟩ rfl rfl hl.1 rfl (lv_room (Nat.le_of_ble_eq_true rfl)) dX1_add_32 ⟨Nat.le_of_ble_eq_true rfl, Nat.le_of_ble_eq_true rfl⟩) ?_
        refine lv_iload_n hx hb dX1_add_35 rfl (lv_at hl 2 rfl) ?_
        refine lv_icmp_le (tgt := 61) hx hb dX1_add_36 (by decide) (fun h6 => ?_) (fun h6 => ?_)
        · have hf := ipos h6 hf
          obtain rfl := Option.some.inj hf
          cases lpx_r hlp
          exact (hWW _ _ _ _ _).mp (K _ _ ls hP hD hS (lv_sub hl [0, 1, 2, 3, 4] rfl))
        · have hf := ineg h6 hf
          refine lv_aload_n hx hb dX1_add_39 rfl (lv_at hl 0 rfl) ?_
          refine va_get (D := D) (ci := 0) (v := .ref a_byLast) (C := RX1) (T := TX1) (N := 6) hx hb hts (fun w h => mb (iX1 w h)) hown hK hP 0 rfl rfl 5 (by decide) (hts _ (mb tb_103)) (fun _ h9 => h9) rfl dX1_add_40 ?_
          refine lv_iload hx hb dX1_add_43 (lv_at hl 4 rfl) ?_
          refine lv_aload_n hx hb dX1_add_45 rfl (lv_at hl 0 rfl) ?_
          refine va_get (D := D) (ci := 0) (v := .ref a_byLast) (C := RX1) (T := TX1) (N := 6) hx hb hts (fun w h => mb (iX1 w h)) hown hK hP 0 rfl rfl 5 (by decide) (hts _ (mb tb_103)) (fun _ h9 => h9) rfl dX1_add_46 ?_
          refine lv_iload hx hb dX1_add_49 (lv_at hl 4 rfl) ?_
          refine lv_iconst (v := 1) hx hb dX1_add_51 (by decide) ?_
          refine lv_isub hx hb dX1_add_52 ?_
          obtain ⟨h7, hf⟩ := ob_d hf
          refine va_iald hx hb hK hP 5 0 rfl rfl h7 dX1_add_53 ?_
          obtain ⟨h8, hf⟩ := ob_d hf
          refine va_iast hx hb hK hP hD hS 5 0 rfl rfl h8 dX1_add_54 (fun H locs hP hD hS => ?_)
          have hP : va_P D vwCl [oX1 a0 c_count a_product a_last a_cost a_state a_byLast, rI cI a_product 24 c_product, rI cI a_last 24 c_last, rI cI a_cost 24 c_cost, rI cI a_state 24 c_state, rI cI a_byLast 24 (upd c_byLast n4.toNatClampNeg (c_byLast (n4 - 1).toNatClampNeg))] H := hP
          have hD : va_D A [oX1 a0 c_count a_product a_last a_cost a_state a_byLast, rI cI a_product 24 c_product, rI cI a_last 24 c_last, rI cI a_cost 24 c_cost, rI cI a_state 24 c_state, rI cI a_byLast 24 (upd c_byLast n4.toNatClampNeg (c_byLast (n4 - 1).toNatClampNeg))] := hD
          refine lv_iinc (v := (n4 + (-1))) (lv' := [(4, .int (n4 + (-1))), (0, .ref a0), (1, .int n1), (2, .int n2), (3, .int n3)]) hx hb dX1_add_55 hl (k := 4) rfl rfl (by decide) rfl (fun ls hl => ?_)
          refine lv_goto (tgt := 17) hx hb dX1_add_58 (by decide) ?_
          obtain rfl := Option.some.inj hf
          exact (hWW _ _ _ _ _).mp (ih _ _ _ _ _ _ _ _ _ _ _ _ hlp K _ _ ls hP hD hS (lv_sub hl [1, 2, 3, 4, 0] rfl))
  refine (hWW _ _ _ _ _).mpr ?_
  refine lv_aload_n hx hb dX1_add_0 rfl (lv_at hl 0 rfl) ?_
  refine va_get (D := D) (ci := 0) (v := .int c_count) (C := RX1) (T := TX1) (N := 6) hx hb hts (fun w h => mb (iX1 w h)) hown hK hP 0 rfl rfl 0 (by decide) (hts _ (mb tb_92)) (fun _ h9 => h9) rfl dX1_add_1 ?_
  refine lv_bipush (v := 24) hx hb dX1_add_4 (by decide) ?_
  refine lv_icmp_lt (tgt := 11) hx hb dX1_add_6 (by decide) (fun h1 => ?_) (fun h1 => ?_)
  · have hf := ipos h1 hf
    refine lv_aload_n hx hb dX1_add_11 rfl (lv_at hl 0 rfl) ?_
    refine va_get (D := D) (ci := 0) (v := .int c_count) (C := RX1) (T := TX1) (N := 6) hx hb hts (fun w h => mb (iX1 w h)) hown hK hP 0 rfl rfl 0 (by decide) (hts _ (mb tb_92)) (fun _ h9 => h9) rfl dX1_add_12 ?_
    refine lv_istore (lv' := [(4, .int c_count), (0, .ref a0), (1, .int v1), (2, .int v2), (3, .int v3)]) hx hb dX1_add_15 hl (by decide) rfl (fun ls hl => ?_)
    obtain ⟨m10, c11, hc9, hf⟩ := ob2 hf
    refine (hWW _ _ _ _ _).mp (hL17 fu _ _ _ _ _ _ _ _ _ _ _ _ hc9 (fun H locs ls hP hD hS hl => ?_) _ _ ls hP hD hS (lv_sub hl [1, 2, 3, 4, 0] rfl))
    · refine (hWW _ _ _ _ _).mpr ?_
      refine lv_aload_n hx hb dX1_add_61 rfl (lv_at hl 0 rfl) ?_
      refine va_get (D := D) (ci := 0) (v := .ref a_byLast) (C := RX1) (T := TX1) (N := 6) hx hb hts (fun w h => mb (iX1 w h)) hown hK hP 0 rfl rfl 5 (by decide) (hts _ (mb tb_103)) (fun _ h9 => h9) rfl dX1_add_62 ?_
      refine lv_iload hx hb dX1_add_65 (lv_at hl 4 rfl) ?_
      refine lv_aload_n hx hb dX1_add_67 rfl (lv_at hl 0 rfl) ?_
      refine va_get (D := D) (ci := 0) (v := .int c_count) (C := RX1) (T := TX1) (N := 6) hx hb hts (fun w h => mb (iX1 w h)) hown hK hP 0 rfl rfl 0 (by decide) (hts _ (mb tb_92)) (fun _ h9 => h9) rfl dX1_add_68 ?_
      obtain ⟨h12, hf⟩ := ob_d hf
      refine va_iast hx hb hK hP hD hS 5 0 rfl rfl h12 dX1_add_71 (fun H locs hP hD hS => ?_)
      have hP : va_P D vwCl [oX1 a0 c_count a_product a_last a_cost a_state a_byLast, rI cI a_product 24 c_product, rI cI a_last 24 c_last, rI cI a_cost 24 c_cost, rI cI a_state 24 c_state, rI cI a_byLast 24 (upd c11 m10.toNatClampNeg c_count)] H := hP
      have hD : va_D A [oX1 a0 c_count a_product a_last a_cost a_state a_byLast, rI cI a_product 24 c_product, rI cI a_last 24 c_last, rI cI a_cost 24 c_cost, rI cI a_state 24 c_state, rI cI a_byLast 24 (upd c11 m10.toNatClampNeg c_count)] := hD
      refine lv_aload_n hx hb dX1_add_72 rfl (lv_at hl 0 rfl) ?_
      refine va_get (D := D) (ci := 0) (v := .ref a_product) (C := RX1) (T := TX1) (N := 6) hx hb hts (fun w h => mb (iX1 w h)) hown hK hP 0 rfl rfl 1 (by decide) (hts _ (mb tb_95)) (fun _ h9 => h9) rfl dX1_add_73 ?_
      refine lv_aload_n hx hb dX1_add_76 rfl (lv_at hl 0 rfl) ?_
      refine va_get (D := D) (ci := 0) (v := .int c_count) (C := RX1) (T := TX1) (N := 6) hx hb hts (fun w h => mb (iX1 w h)) hown hK hP 0 rfl rfl 0 (by decide) (hts _ (mb tb_92)) (fun _ h9 => h9) rfl dX1_add_77 ?_
      refine lv_iload_n hx hb dX1_add_80 rfl (lv_at hl 1 rfl) ?_
      obtain ⟨h13, hf⟩ := ob_d hf
      refine va_iast hx hb hK hP hD hS 1 0 rfl rfl h13 dX1_add_81 (fun H locs hP hD hS => ?_)
      have hP : va_P D vwCl [oX1 a0 c_count a_product a_last a_cost a_state a_byLast, rI cI a_product 24 (upd c_product c_count.toNatClampNeg v1), rI cI a_last 24 c_last, rI cI a_cost 24 c_cost, rI cI a_state 24 c_state, rI cI a_byLast 24 (upd c11 m10.toNatClampNeg c_count)] H := hP
      have hD : va_D A [oX1 a0 c_count a_product a_last a_cost a_state a_byLast, rI cI a_product 24 (upd c_product c_count.toNatClampNeg v1), rI cI a_last 24 c_last, rI cI a_cost 24 c_cost, rI cI a_state 24 c_state, rI cI a_byLast 24 (upd c11 m10.toNatClampNeg c_count)] := hD
      refine lv_aload_n hx hb dX1_add_82 rfl (lv_at hl 0 rfl) ?_
      refine va_get (D := D) (ci := 0) (v := .ref a_last) (C := RX1) (T := TX1) (N := 6) hx hb hts (fun w h => mb (iX1 w h)) hown hK hP 0 rfl rfl 2 (by decide) (hts _ (mb tb_97)) (fun _ h9 => h9) rfl dX1_add_83 ?_
      refine lv_aload_n hx hb dX1_add_86 rfl (lv_at hl 0 rfl) ?_
      refine va_get (D := D) (ci := 0) (v := .int c_count) (C := RX1) (T := TX1) (N := 6) hx hb hts (fun w h => mb (iX1 w h)) hown hK hP 0 rfl rfl 0 (by decide) (hts _ (mb tb_92)) (fun _ h9 => h9) rfl dX1_add_87 ?_
      refine lv_iload_n hx hb dX1_add_90 rfl (lv_at hl 2 rfl) ?_
      obtain ⟨h14, hf⟩ := ob_d hf
      refine va_iast hx hb hK hP hD hS 2 0 rfl rfl h14 dX1_add_91 (fun H locs hP hD hS => ?_)
      have hP : va_P D vwCl [oX1 a0 c_count a_product a_last a_cost a_state a_byLast, rI cI a_product 24 (upd c_product c_count.toNatClampNeg v1), rI cI a_last 24 (upd c_last c_count.toNatClampNeg v2), rI cI a_cost 24 c_cost, rI cI a_state 24 c_state, rI cI a_byLast 24 (upd c11 m10.toNatClampNeg c_count)] H := hP
      have hD : va_D A [oX1 a0 c_count a_product a_last a_cost a_state a_byLast, rI cI a_product 24 (upd c_product c_count.toNatClampNeg v1), rI cI a_last 24 (upd c_last c_count.toNatClampNeg v2), rI cI a_cost 24 c_cost, rI cI a_state 24 c_state, rI cI a_byLast 24 (upd c11 m10.toNatClampNeg c_count)] := hD
      refine lv_aload_n hx hb dX1_add_92 rfl (lv_at hl 0 rfl) ?_
      refine va_get (D := D) (ci := 0) (v := .ref a_cost) (C := RX1) (T := TX1) (N := 6) hx hb hts (fun w h => mb (iX1 w h)) hown hK hP 0 rfl rfl 3 (by decide) (hts _ (mb tb_99)) (fun _ h9 => h9) rfl dX1_add_93 ?_
      refine lv_aload_n hx hb dX1_add_96 rfl (lv_at hl 0 rfl) ?_
      refine va_get (D := D) (ci := 0) (v := .int c_count) (C := RX1) (T := TX1) (N := 6) hx hb hts (fun w h => mb (iX1 w h)) hown hK hP 0 rfl rfl 0 (by decide) (hts _ (mb tb_92)) (fun _ h9 => h9) rfl dX1_add_97 ?_
      refine lv_iload_n hx hb dX1_add_100 rfl (lv_at hl 3 rfl) ?_
      obtain ⟨h15, hf⟩ := ob_d hf
      refine va_iast hx hb hK hP hD hS 3 0 rfl rfl h15 dX1_add_101 (fun H locs hP hD hS => ?_)
      have hP : va_P D vwCl [oX1 a0 c_count a_product a_last a_cost a_state a_byLast, rI cI a_product 24 (upd c_product c_count.toNatClampNeg v1), rI cI a_last 24 (upd c_last c_count.toNatClampNeg v2), rI cI a_cost 24 (upd c_cost c_count.toNatClampNeg v3), rI cI a_state 24 c_state, rI cI a_byLast 24 (upd c11 m10.toNatClampNeg c_count)] H := hP
      have hD : va_D A [oX1 a0 c_count a_product a_last a_cost a_state a_byLast, rI cI a_product 24 (upd c_product c_count.toNatClampNeg v1), rI cI a_last 24 (upd c_last c_count.toNatClampNeg v2), rI cI a_cost 24 (upd c_cost c_count.toNatClampNeg v3), rI cI a_state 24 c_state, rI cI a_byLast 24 (upd c11 m10.toNatClampNeg c_count)] := hD
      refine lv_aload_n hx hb dX1_add_102 rfl (lv_at hl 0 rfl) ?_
      refine va_get (D := D) (ci := 0) (v := .ref a_state) (C := RX1) (T := TX1) (N := 6) hx hb hts (fun w h => mb (iX1 w h)) hown hK hP 0 rfl rfl 4 (by decide) (hts _ (mb tb_101)) (fun _ h9 => h9) rfl dX1_add_103 ?_
      refine lv_aload_n hx hb dX1_add_106 rfl (lv_at hl 0 rfl) ?_
      refine va_get (D := D) (ci := 0) (v := .int c_count) (C := RX1) (T := TX1) (N := 6) hx hb hts (fun w h => mb (iX1 w h)) hown hK hP 0 rfl rfl 0 (by decide) (hts _ (mb tb_92)) (fun _ h9 => h9) rfl dX1_add_107 ?_
      refine lv_iconst (v := 0) hx hb dX1_add_110 (by decide) ?_
      obtain ⟨h16, hf⟩ := ob_d hf
      refine va_iast hx hb hK hP hD hS 4 0 rfl rfl h16 dX1_add_111 (fun H locs hP hD hS => ?_)
      have hP : va_P D vwCl [oX1 a0 c_count a_product a_last a_cost a_state a_byLast, rI cI a_product 24 (upd c_product c_count.toNatClampNeg v1), rI cI a_last 24 (upd c_last c_count.toNatClampNeg v2), rI cI a_cost 24 (upd c_cost c_count.toNatClampNeg v3), rI cI a_state 24 (upd c_state c_count.toNatClampNeg 0), rI cI a_byLast 24 (upd c11 m10.toNatClampNeg c_count)] H := hP
      have hD : va_D A [oX1 a0 c_count a_product a_last a_cost a_state a_byLast, rI cI a_product 24 (upd c_product c_count.toNatClampNeg v1), rI cI a_last 24 (upd c_last c_count.toNatClampNeg v2), rI cI a_cost 24 (upd c_cost c_count.toNatClampNeg v3), rI cI a_state 24 (upd c_state c_count.toNatClampNeg 0), rI cI a_byLast 24 (upd c11 m10.toNatClampNeg c_count)] := hD
      refine lv_aload_n hx hb dX1_add_112 rfl (lv_at hl 0 rfl) ?_
      refine lv_dup hx hb dX1_add_113 rfl ?_
      refine va_get (D := D) (ci := 0) (v := .int c_count) (C := RX1) (T := TX1) (N := 6) hx hb hts (fun w h => mb (iX1 w h)) hown hK hP 0 rfl rfl 0 (by decide) (hts _ (mb tb_92)) (fun _ h9 => h9) rfl dX1_add_114 ?_
      refine lv_iconst (v := 1) hx hb dX1_add_117 (by decide) ?_
      refine lv_iadd hx hb dX1_add_118 ?_
      refine va_put (D := D) (ci := 0) (v := .int (c_count + 1)) (ty := .int) (C := RX1) (T := TX1) (N := 6) hx hb hts (fun w h => mb (iX1 w h)) tyX1 tyX1_ok nmX1 hown hK hP hD hS 0 rfl rfl 0 (by decide) (hts _ (mb tb_92)) (fun _ h9 => h9) rfl (by decide +kernel) rfl rfl (Nat.le_of_ble_eq_true rfl) dX1_add_119 (fun H locs hP hD hS => ?_)
      have hP : va_P D vwCl [oX1 a0 (c_count + 1) a_product a_last a_cost a_state a_byLast, rI cI a_product 24 (upd c_product c_count.toNatClampNeg v1), rI cI a_last 24 (upd c_last c_count.toNatClampNeg v2), rI cI a_cost 24 (upd c_cost c_count.toNatClampNeg v3), rI cI a_state 24 (upd c_state c_count.toNatClampNeg 0), rI cI a_byLast 24 (upd c11 m10.toNatClampNeg c_count)] H := hP
      have hD : va_D A [oX1 a0 (c_count + 1) a_product a_last a_cost a_state a_byLast, rI cI a_product 24 (upd c_product c_count.toNatClampNeg v1), rI cI a_last 24 (upd c_last c_count.toNatClampNeg v2), rI cI a_cost 24 (upd c_cost c_count.toNatClampNeg v3), rI cI a_state 24 (upd c_state c_count.toNatClampNeg 0), rI cI a_byLast 24 (upd c11 m10.toNatClampNeg c_count)] := hD
      refine lv_aload_n hx hb dX1_add_122 rfl (lv_at hl 0 rfl) ?_
      refine va_get (D := D) (ci := 0) (v := .int (c_count + 1)) (C := RX1) (T := TX1) (N := 6) hx hb hts (fun w h => mb (iX1 w h)) hown hK hP 0 rfl rfl 0 (by decide) (hts _ (mb tb_92)) (fun _ h9 => h9) rfl dX1_add_123 ?_
      refine lv_iconst (v := 1) hx hb dX1_add_126 (by decide) ?_
      refine lv_isub hx hb dX1_add_127 ?_
      cases hf
      refine W.widen (k := 0) (n := 0) (Nat.le_of_ble_eq_true rfl) (Nat.le_of_ble_eq_true rfl) ?_
      exact W.iret hx hb hr (fun t ht hW => ⟨⟨_, (), rfl, rfl, (by show va_P D vwCl _ t.heap; rw [ht]; exact hP)⟩, hS.F ht⟩) hS.2.2 dX1_add_128
  · have hf := ineg h1 hf
    refine lv_iconst (v := (-1)) hx hb dX1_add_9 (by decide) ?_
    cases hf
    refine W.widen (k := 0) (n := 0) (Nat.le_of_ble_eq_true rfl) (Nat.le_of_ble_eq_true rfl) ?_
    exact W.iret hx hb hr (fun t ht hW => ⟨⟨_, (), rfl, rfl, (by show va_P D vwCl _ t.heap; rw [ht]; exact hP)⟩, hS.F ht⟩) hS.2.2 dX1_add_10
def f_X1_isFit (v1 : Int32) (v2 : Int32) (v3 : Int32) (c_count : Int32) (c_product : Nat → Int32) (c_last : Nat → Int32) (c_state : Nat → Int32) : Option (Int32) :=
  bnd1 (f_X1_exists v1 c_count) (fun r1 =>
  ((if r1 = 0 then some 0
  else gd v1 24 ((if (c_product v1.toNatClampNeg) = v2 then gd v1 24 ((if (c_state v1.toNatClampNeg) = 0 then gd v1 24 ((if (c_last v1.toNatClampNeg) < v3 then some 0
  else some 1))
  else some 0))
  else some 0)))))
set_option maxHeartbeats 4000000 in
set_option maxRecDepth 100000 in
theorem k_X1_isFit (l : Launch) (hl0 : l.stackTraces = false) (D : va_G) (cI cJ cZ cS : ClassId) (B0 : Nat) (H0 : Heap) (a0 a_product a_last a_cost a_state a_byLast : Nat) (c_count : Int32) (c_product : Nat → Int32) (c_last : Nat → Int32) (c_state : Nat → Int32) (v1 : Int32) (v2 : Int32) (v3 : Int32) (r9 : Int32)  (hf : f_X1_isFit v1 v2 v3 c_count c_product c_last c_state = some r9) : Met l yX1_isFit (wz yX1_isFit cX1_isFit 4 (some .boolean)) ({ frames := 1, cells := 0, slots := 0, locals := 21 }) (va_Pc [.ref a0, .int v1, .int v2, .int v3] (rp D cI cJ cZ cS B0 [oX1 a0 c_count a_product a_last a_cost a_state a_byLast, rI cI a_product 24 c_product, rI cI a_last 24 c_last, rI cI a_state 24 c_state] H0)) (va_Qi (fun (r2 : Int32) (_ : Unit) => r2 = r9) (fun _ t => t.heap = H0) (fun q => H0.size ≤ q)) 0 0 (fun q => H0.size ≤ q) := by
  refine Met.ofW (cc := cX1_isFit) (maxL := 4) (ret := (some .boolean)) (by decide) rfl ?_
  intro p e s m args below meth c s₁ B hml hv
  obtain ⟨rfl, hH, hP, hK, hB0, hE⟩ := hv
  subst hH
  have hx := B.exec
  have hb := B.bytes
  have hr := B.returns
  have hts := atoms_spec (ws := (wz yX1_isFit cX1_isFit 4 (some .boolean))) B.pre
  have hown : s.vm.findClass RX1 = some m.cls := findClass_of_methodNamed B.named
  have hlocks := B.notSynchronized
  have hAB : ∀ q : Nat, s.heap.size ≤ q → B0 ≤ q := fun q h => Nat.le_trans hB0 h
  have hA : ∀ q : Nat, s.heap.size ≤ q → s.heap.size ≤ q := fun _ h => h
  have hS : va_S (fun q => s.heap.size ≤ q) s.heap s.heap [] := va_S.rf
  have hBn := fun (H : Heap) (locs : List Loc) (h : va_S (fun q => s.heap.size ≤ q) s.heap H locs) => Nat.le_trans hB0 h.1
  have hEn := fun (H : Heap) (locs : List Loc) (h : va_S (fun q => s.heap.size ≤ q) s.heap H locs) => gE_now hE h hAB
  have hl := lv_entry ([.ref a0, .int v1, .int v2, .int v3]) (n := 4) (Nat.le_of_ble_eq_true rfl)
  rw [lg_entry_eq]
  generalize (lg_sl ([.ref a0, .int v1, .int v2, .int v3]) ++ List.replicate (4 - (lg_sl ([.ref a0, .int v1, .int v2, .int v3])).length) Slot.unset).toArray = ls at hl ⊢
  have hl : lv_has ls 4 [(0, .ref a0), (1, .int v1), (2, .int v2), (3, .int v3)] := hl
  obtain ⟨H, hHe⟩ : ∃ H : Heap, H = s.heap := ⟨_, rfl⟩
  have hP : va_P D vwCl [oX1 a0 c_count a_product a_last a_cost a_state a_byLast, rI cI a_product 24 c_product, rI cI a_last 24 c_last, rI cI a_state 24 c_state] H := by rw [hHe]; exact hP
  have hS : va_S (fun q => s.heap.size ≤ q) s.heap H [] := by rw [hHe]; exact hS
  refine W_heq hHe ?_
  unfold f_X1_isFit at hf
  refine lv_aload_n hx hb dX1_isFit_0 rfl (lv_at hl 0 rfl) ?_
  refine lv_iload_n hx hb dX1_isFit_1 rfl (lv_at hl 1 rfl) ?_
  obtain ⟨r1, hc2, hf⟩ := ob1 hf
  refine ro_calli (r := r1) (va_runV (As := [.int v1]) (rest := []) ⟨hx, hb, hml, hown, hts⟩ (k_X1_exists l hl0 D cI cJ cZ cS B0 H a0 a_product a_last a_cost a_state a_byLast c_count v1 r1 hc2) (cwV 1 hts (gV tb_542 tb_543 tb_544 tb_4 tb_545) rfl rfl rfl (by decide +kernel) ⟨Nat.le_of_ble_eq_true rfl, Nat.le_of_ble_eq_true rfl⟩) ⟨rp_blind, va_recv hK hP (ci := 0) (q0 := 0) rfl rfl, rp_pre (hP.sub [0] rfl) hK (hBn _ _ hS) (hEn _ _ hS)⟩ rfl rfl hl.1 rfl (lv_room (Nat.le_of_ble_eq_true rfl)) dX1_isFit_2 ⟨Nat.le_of_ble_eq_true rfl, Nat.le_of_ble_eq_true rfl⟩) ?_
  refine lv_if_eq (tgt := 41) hx hb dX1_isFit_5 (by decide) (fun h3 => ?_) (fun h3 => ?_)
  · have hf := ipos h3 hf
    refine lv_iconst (v := 0) hx hb dX1_isFit_41 (by decide) ?_
    cases hf
    exact W.zret hx hb hr rfl (fun t ht hW => ⟨⟨_, (), rfl, rfl, (ht.trans hHe)⟩, hS.F ht⟩) hS.2.2 dX1_isFit_42
  · have hf := ineg h3 hf
    refine lv_aload_n hx hb dX1_isFit_8 rfl (lv_at hl 0 rfl) ?_
    refine va_get (D := D) (ci := 0) (v := .ref a_product) (C := RX1) (T := TX1) (N := 6) hx hb hts (fun w h => mb (iX1 w h)) hown hK hP 0 rfl rfl 1 (by decide) (hts _ (mb tb_95)) (fun _ h9 => h9) rfl dX1_isFit_9 ?_
    refine lv_iload_n hx hb dX1_isFit_12 rfl (lv_at hl 1 rfl) ?_
    obtain ⟨h4, hf⟩ := ob_d hf
    refine va_iald hx hb hK hP 1 0 rfl rfl h4 dX1_isFit_13 ?_
    refine lv_iload_n hx hb dX1_isFit_14 rfl (lv_at hl 2 rfl) ?_
    refine lv_icmp_ne (tgt := 41) hx hb dX1_isFit_15 (by decide) (fun h5 => ?_) (fun h5 => ?_)
    · have hf := ineg h5 hf
      refine lv_iconst (v := 0) hx hb dX1_isFit_41 (by decide) ?_
      cases hf
      exact W.zret hx hb hr rfl (fun t ht hW => ⟨⟨_, (), rfl, rfl, (ht.trans hHe)⟩, hS.F ht⟩) hS.2.2 dX1_isFit_42
    · have hf := ipos h5 hf
      refine lv_aload_n hx hb dX1_isFit_18 rfl (lv_at hl 0 rfl) ?_
      refine va_get (D := D) (ci := 0) (v := .ref a_state) (C := RX1) (T := TX1) (N := 6) hx hb hts (fun w h => mb (iX1 w h)) hown hK hP 0 rfl rfl 4 (by decide) (hts _ (mb tb_101)) (fun _ h9 => h9) rfl dX1_isFit_19 ?_
      refine lv_iload_n hx hb dX1_isFit_22 rfl (lv_at hl 1 rfl) ?_
      obtain ⟨h6, hf⟩ := ob_d hf
      refine va_iald hx hb hK hP 3 0 rfl rfl h6 dX1_isFit_23 ?_
      refine lv_if_ne (tgt := 41) hx hb dX1_isFit_24 (by decide) (fun h7 => ?_) (fun h7 => ?_)
      · have hf := ineg h7 hf
        refine lv_iconst (v := 0) hx hb dX1_isFit_41 (by decide) ?_
        cases hf
        exact W.zret hx hb hr rfl (fun t ht hW => ⟨⟨_, (), rfl, rfl, (ht.trans hHe)⟩, hS.F ht⟩) hS.2.2 dX1_isFit_42
      · have hf := ipos h7 hf
        refine lv_aload_n hx hb dX1_isFit_27 rfl (lv_at hl 0 rfl) ?_
        refine va_get (D := D) (ci := 0) (v := .ref a_last) (C := RX1) (T := TX1) (N := 6) hx hb hts (fun w h => mb (iX1 w h)) hown hK hP 0 rfl rfl 2 (by decide) (hts _ (mb tb_97)) (fun _ h9 => h9) rfl dX1_isFit_28 ?_
        refine lv_iload_n hx hb dX1_isFit_31 rfl (lv_at hl 1 rfl) ?_
        obtain ⟨h8, hf⟩ := ob_d hf
        refine va_iald hx hb hK hP 2 0 rfl rfl h8 dX1_isFit_32 ?_
        refine lv_iload_n hx hb dX1_isFit_33 rfl (lv_at hl 3 rfl) ?_
        refine lv_icmp_lt (tgt := 41) hx hb dX1_isFit_34 (by decide) (fun h9 => ?_) (fun h9 => ?_)
        · have hf := ipos h9 hf
          refine lv_iconst (v := 0) hx hb dX1_isFit_41 (by decide) ?_
          cases hf
          exact W.zret hx hb hr rfl (fun t ht hW => ⟨⟨_, (), rfl, rfl, (ht.trans hHe)⟩, hS.F ht⟩) hS.2.2 dX1_isFit_42
        · have hf := ineg h9 hf
          refine lv_iconst (v := 1) hx hb dX1_isFit_37 (by decide) ?_
          refine lv_goto (tgt := 42) hx hb dX1_isFit_38 (by decide) ?_
          cases hf
          exact W.zret hx hb hr rfl (fun t ht hW => ⟨⟨_, (), rfl, rfl, (ht.trans hHe)⟩, hS.F ht⟩) hS.2.2 dX1_isFit_42
def f_X1_isWaste_J28 (c_count : Int32) (c_last : Nat → Int32) (c_state : Nat → Int32) : Option (Int32) :=
  some 1
def f_X1_isWaste (v1 : Int32) (v2 : Int32) (c_count : Int32) (c_last : Nat → Int32) (c_state : Nat → Int32) : Option (Int32) :=
  bnd1 (f_X1_exists v1 c_count) (fun r1 =>
  ((if r1 = 0 then some 0
  else gd v1 24 ((if (c_state v1.toNatClampNeg) = 2 then f_X1_isWaste_J28 c_count c_last c_state
  else gd v1 24 ((if v2 ≤ (c_last v1.toNatClampNeg) then some 0
  else f_X1_isWaste_J28 c_count c_last c_state)))))))
set_option maxHeartbeats 4000000 in
set_option maxRecDepth 100000 in
theorem k_X1_isWaste (l : Launch) (hl0 : l.stackTraces = false) (D : va_G) (cI cJ cZ cS : ClassId) (B0 : Nat) (H0 : Heap) (a0 a_product a_last a_cost a_state a_byLast : Nat) (c_count : Int32) (c_last : Nat → Int32) (c_state : Nat → Int32) (v1 : Int32) (v2 : Int32) (r9 : Int32)  (hf : f_X1_isWaste v1 v2 c_count c_last c_state = some r9) : Met l yX1_isWaste (wz yX1_isWaste cX1_isWaste 3 (some .boolean)) ({ frames := 1, cells := 0, slots := 0, locals := 21 }) (va_Pc [.ref a0, .int v1, .int v2] (rp D cI cJ cZ cS B0 [oX1 a0 c_count a_product a_last a_cost a_state a_byLast, rI cI a_last 24 c_last, rI cI a_state 24 c_state] H0)) (va_Qi (fun (r2 : Int32) (_ : Unit) => r2 = r9) (fun _ t => t.heap = H0) (fun q => H0.size ≤ q)) 0 0 (fun q => H0.size ≤ q) := by
  refine Met.ofW (cc := cX1_isWaste) (maxL := 3) (ret := (some .boolean)) (by decide) rfl ?_
  intro p e s m args below meth c s₁ B hml hv
  obtain ⟨rfl, hH, hP, hK, hB0, hE⟩ := hv
  subst hH
  have hx := B.exec
  have hb := B.bytes
  have hr := B.returns
  have hts := atoms_spec (ws := (wz yX1_isWaste cX1_isWaste 3 (some .boolean))) B.pre
  have hown : s.vm.findClass RX1 = some m.cls := findClass_of_methodNamed B.named
  have hlocks := B.notSynchronized
  have hAB : ∀ q : Nat, s.heap.size ≤ q → B0 ≤ q := fun q h => Nat.le_trans hB0 h
  have hA : ∀ q : Nat, s.heap.size ≤ q → s.heap.size ≤ q := fun _ h => h
  have hS : va_S (fun q => s.heap.size ≤ q) s.heap s.heap [] := va_S.rf
  have hBn := fun (H : Heap) (locs : List Loc) (h : va_S (fun q => s.heap.size ≤ q) s.heap H locs) => Nat.le_trans hB0 h.1
  have hEn := fun (H : Heap) (locs : List Loc) (h : va_S (fun q => s.heap.size ≤ q) s.heap H locs) => gE_now hE h hAB
  have hl := lv_entry ([.ref a0, .int v1, .int v2]) (n := 3) (Nat.le_of_ble_eq_true rfl)
  rw [lg_entry_eq]
  generalize (lg_sl ([.ref a0, .int v1, .int v2]) ++ List.replicate (3 - (lg_sl ([.ref a0, .int v1, .int v2])).length) Slot.unset).toArray = ls at hl ⊢
  have hl : lv_has ls 3 [(0, .ref a0), (1, .int v1), (2, .int v2)] := hl
  obtain ⟨H, hHe⟩ : ∃ H : Heap, H = s.heap := ⟨_, rfl⟩
  have hP : va_P D vwCl [oX1 a0 c_count a_product a_last a_cost a_state a_byLast, rI cI a_last 24 c_last, rI cI a_state 24 c_state] H := by rw [hHe]; exact hP
  have hS : va_S (fun q => s.heap.size ≤ q) s.heap H [] := by rw [hHe]; exact hS
  refine W_heq hHe ?_
  unfold f_X1_isWaste at hf
  refine gen_go (fun WW hWW => ?_)
  have hJ28 : ∀ (_ : Unit), f_X1_isWaste_J28 c_count c_last c_state = some r9 → ∀ (ls : Array Slot), lv_has ls 3 [] → WW (F0 m 28 ls []) := by
    intro _ hf ls hl
    unfold f_X1_isWaste_J28 at hf
    refine (hWW _).mpr ?_
    refine lv_iconst (v := 1) hx hb dX1_isWaste_28 (by decide) ?_
    refine lv_goto (tgt := 33) hx hb dX1_isWaste_29 (by decide) ?_
    cases hf
    exact W.zret hx hb hr rfl (fun t ht hW => ⟨⟨_, (), rfl, rfl, (ht.trans hHe)⟩, hS.F ht⟩) hS.2.2 dX1_isWaste_33
  refine (hWW _).mpr ?_
  refine lv_aload_n hx hb dX1_isWaste_0 rfl (lv_at hl 0 rfl) ?_
  refine lv_iload_n hx hb dX1_isWaste_1 rfl (lv_at hl 1 rfl) ?_
  obtain ⟨r1, hc2, hf⟩ := ob1 hf
  refine ro_calli (r := r1) (va_runV (As := [.int v1]) (rest := []) ⟨hx, hb, hml, hown, hts⟩ (k_X1_exists l hl0 D cI cJ cZ cS B0 H a0 a_product a_last a_cost a_state a_byLast c_count v1 r1 hc2) (cwV 1 hts (gV tb_542 tb_543 tb_544 tb_4 tb_545) rfl rfl rfl (by decide +kernel) ⟨Nat.le_of_ble_eq_true rfl, Nat.le_of_ble_eq_true rfl⟩) ⟨rp_blind, va_recv hK hP (ci := 0) (q0 := 0) rfl rfl, rp_pre (hP.sub [0] rfl) hK (hBn _ _ hS) (hEn _ _ hS)⟩ rfl rfl hl.1 rfl (lv_room (Nat.le_of_ble_eq_true rfl)) dX1_isWaste_2 ⟨Nat.le_of_ble_eq_true rfl, Nat.le_of_ble_eq_true rfl⟩) ?_
  refine lv_if_eq (tgt := 32) hx hb dX1_isWaste_5 (by decide) (fun h3 => ?_) (fun h3 => ?_)
  · have hf := ipos h3 hf
    refine lv_iconst (v := 0) hx hb dX1_isWaste_32 (by decide) ?_
    cases hf
    exact W.zret hx hb hr rfl (fun t ht hW => ⟨⟨_, (), rfl, rfl, (ht.trans hHe)⟩, hS.F ht⟩) hS.2.2 dX1_isWaste_33
  · have hf := ineg h3 hf
    refine lv_aload_n hx hb dX1_isWaste_8 rfl (lv_at hl 0 rfl) ?_
    refine va_get (D := D) (ci := 0) (v := .ref a_state) (C := RX1) (T := TX1) (N := 6) hx hb hts (fun w h => mb (iX1 w h)) hown hK hP 0 rfl rfl 4 (by decide) (hts _ (mb tb_101)) (fun _ h9 => h9) rfl dX1_isWaste_9 ?_
    refine lv_iload_n hx hb dX1_isWaste_12 rfl (lv_at hl 1 rfl) ?_
    obtain ⟨h4, hf⟩ := ob_d hf
    refine va_iald hx hb hK hP 2 0 rfl rfl h4 dX1_isWaste_13 ?_
    refine lv_iconst (v := 2) hx hb dX1_isWaste_14 (by decide) ?_
    refine lv_icmp_eq (tgt := 28) hx hb dX1_isWaste_15 (by decide) (fun h5 => ?_) (fun h5 => ?_)
    · have hf := ipos h5 hf
      exact (hWW _).mp (hJ28 () hf ls (lv_sub hl [] rfl))
    · have hf := ineg h5 hf
      refine lv_aload_n hx hb dX1_isWaste_18 rfl (lv_at hl 0 rfl) ?_
      refine va_get (D := D) (ci := 0) (v := .ref a_last) (C := RX1) (T := TX1) (N := 6) hx hb hts (fun w h => mb (iX1 w h)) hown hK hP 0 rfl rfl 2 (by decide) (hts _ (mb tb_97)) (fun _ h9 => h9) rfl dX1_isWaste_19 ?_
      refine lv_iload_n hx hb dX1_isWaste_22 rfl (lv_at hl 1 rfl) ?_
      obtain ⟨h6, hf⟩ := ob_d hf
      refine va_iald hx hb hK hP 1 0 rfl rfl h6 dX1_isWaste_23 ?_
      refine lv_iload_n hx hb dX1_isWaste_24 rfl (lv_at hl 2 rfl) ?_
      refine lv_icmp_ge (tgt := 32) hx hb dX1_isWaste_25 (by decide) (fun h7 => ?_) (fun h7 => ?_)
      · have hf := ipos h7 hf
        refine lv_iconst (v := 0) hx hb dX1_isWaste_32 (by decide) ?_
        cases hf
        exact W.zret hx hb hr rfl (fun t ht hW => ⟨⟨_, (), rfl, rfl, (ht.trans hHe)⟩, hS.F ht⟩) hS.2.2 dX1_isWaste_33
      · have hf := ineg h7 hf
        exact (hWW _).mp (hJ28 () hf ls (lv_sub hl [] rfl))
def f_X1_copyFrom (c_count : Int32) (c_product : Nat → Int32) (c_last : Nat → Int32) (c_cost : Nat → Int32) (c_state : Nat → Int32) (c_byLast : Nat → Int32) (cp1_count : Int32) (cp1_product : Nat → Int32) (cp1_last : Nat → Int32) (cp1_cost : Nat → Int32) (cp1_state : Nat → Int32) (cp1_byLast : Nat → Int32) : Option (Int32 × (Nat → Int32) × (Nat → Int32) × (Nat → Int32) × (Nat → Int32) × (Nat → Int32)) :=
  some (cp1_count, va_cpy cp1_product c_product (0 : Int32).toNatClampNeg (0 : Int32).toNatClampNeg (24 : Int32).toNatClampNeg, va_cpy cp1_last c_last (0 : Int32).toNatClampNeg (0 : Int32).toNatClampNeg (24 : Int32).toNatClampNeg, va_cpy cp1_cost c_cost (0 : Int32).toNatClampNeg (0 : Int32).toNatClampNeg (24 : Int32).toNatClampNeg, va_cpy cp1_state c_state (0 : Int32).toNatClampNeg (0 : Int32).toNatClampNeg (24 : Int32).toNatClampNeg, va_cpy cp1_byLast c_byLast (0 : Int32).toNatClampNeg (0 : Int32).toNatClampNeg (24 : Int32).toNatClampNeg)
set_option maxHeartbeats 4000000 in
set_option maxRecDepth 100000 in
theorem k_X1_copyFrom (l : Launch) (hl0 : l.stackTraces = false) (D : va_G) (cI cJ cZ cS : ClassId) (B0 : Nat) (sz : Nat) (a0 a_product a_last a_cost a_state a_byLast ap1 ap1_product ap1_last ap1_cost ap1_state ap1_byLast : Nat) (c_count : Int32) (c_product : Nat → Int32) (c_last : Nat → Int32) (c_cost : Nat → Int32) (c_state : Nat → Int32) (c_byLast : Nat → Int32) (cp1_count : Int32) (cp1_product : Nat → Int32) (cp1_last : Nat → Int32) (cp1_cost : Nat → Int32) (cp1_state : Nat → Int32) (cp1_byLast : Nat → Int32) (oc_count : Int32) (oc_product : Nat → Int32) (oc_last : Nat → Int32) (oc_cost : Nat → Int32) (oc_state : Nat → Int32) (oc_byLast : Nat → Int32)  (hf : f_X1_copyFrom c_count c_product c_last c_cost c_state c_byLast cp1_count cp1_product cp1_last cp1_cost cp1_state cp1_byLast = some (oc_count, oc_product, oc_last, oc_cost, oc_state, oc_byLast)) : Met l yX1_copyFrom (wz yX1_copyFrom cX1_copyFrom 2 none) ({ frames := 1, cells := 0, slots := 0, locals := 40 }) (va_Pc [.ref a0, .ref ap1] (wp D cI cJ cZ cS B0 [oX1 a0 c_count a_product a_last a_cost a_state a_byLast, rI cI a_product 24 c_product, rI cI a_last 24 c_last, rI cI a_cost 24 c_cost, rI cI a_state 24 c_state, rI cI a_byLast 24 c_byLast, oX1 ap1 cp1_count ap1_product ap1_last ap1_cost ap1_state ap1_byLast, rI cI ap1_product 24 cp1_product, rI cI ap1_last 24 cp1_last, rI cI ap1_cost 24 cp1_cost, rI cI ap1_state 24 cp1_state, rI cI ap1_byLast 24 cp1_byLast] sz)) (va_Qv (fun (_ : Unit) => True) (fun _ t => va_P D vwCl [oX1 a0 oc_count a_product a_last a_cost a_state a_byLast, rI cI a_product 24 oc_product, rI cI a_last 24 oc_last, rI cI a_cost 24 oc_cost, rI cI a_state 24 oc_state, rI cI a_byLast 24 oc_byLast, oX1 ap1 cp1_count ap1_product ap1_last ap1_cost ap1_state ap1_byLast, rI cI ap1_product 24 cp1_product, rI cI ap1_last 24 cp1_last, rI cI ap1_cost 24 cp1_cost, rI cI ap1_state 24 cp1_state, rI cI ap1_byLast 24 cp1_byLast] t.heap) (va_A [oX1 a0 c_count a_product a_last a_cost a_state a_byLast, rI cI a_product 24 c_product, rI cI a_last 24 c_last, rI cI a_cost 24 c_cost, rI cI a_state 24 c_state, rI cI a_byLast 24 c_byLast, oX1 ap1 cp1_count ap1_product ap1_last ap1_cost ap1_state ap1_byLast, rI cI ap1_product 24 cp1_product, rI cI ap1_last 24 cp1_last, rI cI ap1_cost 24 cp1_cost, rI cI ap1_state 24 cp1_state, rI cI ap1_byLast 24 cp1_byLast] sz)) 0 0 (va_A [oX1 a0 c_count a_product a_last a_cost a_state a_byLast, rI cI a_product 24 c_product, rI cI a_last 24 c_last, rI cI a_cost 24 c_cost, rI cI a_state 24 c_state, rI cI a_byLast 24 c_byLast, oX1 ap1 cp1_count ap1_product ap1_last ap1_cost ap1_state ap1_byLast, rI cI ap1_product 24 cp1_product, rI cI ap1_last 24 cp1_last, rI cI ap1_cost 24 cp1_cost, rI cI ap1_state 24 cp1_state, rI cI ap1_byLast 24 cp1_byLast] sz) := by
  refine Met.ofW (cc := cX1_copyFrom) (maxL := 2) (ret := none) (by decide) rfl ?_
  intro p e s m args below meth c s₁ B hml hv
  obtain ⟨rfl, hsz, hP, hK, hD0, hB0, hE⟩ := hv
  subst hsz
  have hx := B.exec
  have hb := B.bytes
  have hr := B.returns
  have hts := atoms_spec (ws := (wz yX1_copyFrom cX1_copyFrom 2 none)) B.pre
  have hown : s.vm.findClass RX1 = some m.cls := findClass_of_methodNamed B.named
  have hlocks := B.notSynchronized
  have hD := hD0.self (sz := s.heap.size)
  have hAB : ∀ q : Nat, va_A [oX1 a0 c_count a_product a_last a_cost a_state a_byLast, rI cI a_product 24 c_product, rI cI a_last 24 c_last, rI cI a_cost 24 c_cost, rI cI a_state 24 c_state, rI cI a_byLast 24 c_byLast, oX1 ap1 cp1_count ap1_product ap1_last ap1_cost ap1_state ap1_byLast, rI cI ap1_product 24 cp1_product, rI cI ap1_last 24 cp1_last, rI cI ap1_cost 24 cp1_cost, rI cI ap1_state 24 cp1_state, rI cI ap1_byLast 24 cp1_byLast] s.heap.size q → B0 ≤ q := va_A_B hD0 hB0
  generalize hAe : va_A [oX1 a0 c_count a_product a_last a_cost a_state a_byLast, rI cI a_product 24 c_product, rI cI a_last 24 c_last, rI cI a_cost 24 c_cost, rI cI a_state 24 c_state, rI cI a_byLast 24 c_byLast, oX1 ap1 cp1_count ap1_product ap1_last ap1_cost ap1_state ap1_byLast, rI cI ap1_product 24 cp1_product, rI cI ap1_last 24 cp1_last, rI cI ap1_cost 24 cp1_cost, rI cI ap1_state 24 cp1_state, rI cI ap1_byLast 24 cp1_byLast] s.heap.size = A at hD hAB ⊢
  have hA : ∀ q : Nat, s.heap.size ≤ q → A q := fun q h => by rw [← hAe]; exact Or.inr h
  have hFa := hA
  have hS : va_S A s.heap s.heap [] := va_S.rf
  have hBn := fun (H : Heap) (locs : List Loc) (h : va_S A s.heap H locs) => Nat.le_trans hB0 h.1
  have hEn := fun (H : Heap) (locs : List Loc) (h : va_S A s.heap H locs) => gE_now hE h hAB
  have hl := lv_entry ([.ref a0, .ref ap1]) (n := 2) (Nat.le_of_ble_eq_true rfl)
  rw [lg_entry_eq]
  generalize (lg_sl ([.ref a0, .ref ap1]) ++ List.replicate (2 - (lg_sl ([.ref a0, .ref ap1])).length) Slot.unset).toArray = ls at hl ⊢
  have hl : lv_has ls 2 [(0, .ref a0), (1, .ref ap1)] := hl
  obtain ⟨H, hHe⟩ : ∃ H : Heap, H = s.heap := ⟨_, rfl⟩
  have hP : va_P D vwCl [oX1 a0 c_count a_product a_last a_cost a_state a_byLast, rI cI a_product 24 c_product, rI cI a_last 24 c_last, rI cI a_cost 24 c_cost, rI cI a_state 24 c_state, rI cI a_byLast 24 c_byLast, oX1 ap1 cp1_count ap1_product ap1_last ap1_cost ap1_state ap1_byLast, rI cI ap1_product 24 cp1_product, rI cI ap1_last 24 cp1_last, rI cI ap1_cost 24 cp1_cost, rI cI ap1_state 24 cp1_state, rI cI ap1_byLast 24 cp1_byLast] H := by rw [hHe]; exact hP
  have hS : va_S A s.heap H [] := by rw [hHe]; exact hS
  refine W_heq hHe ?_
  unfold f_X1_copyFrom at hf
  refine lv_aload_n hx hb dX1_copyFrom_0 rfl (lv_at hl 0 rfl) ?_
  refine lv_aload_n hx hb dX1_copyFrom_1 rfl (lv_at hl 1 rfl) ?_
  refine va_get (D := D) (ci := 0) (v := .int cp1_count) (C := RX1) (T := TX1) (N := 6) hx hb hts (fun w h => mb (iX1 w h)) hown hK hP 6 rfl rfl 0 (by decide) (hts _ (mb tb_92)) (fun _ h9 => h9) rfl dX1_copyFrom_2 ?_
  refine va_put (D := D) (ci := 0) (v := .int cp1_count) (ty := .int) (C := RX1) (T := TX1) (N := 6) hx hb hts (fun w h => mb (iX1 w h)) tyX1 tyX1_ok nmX1 hown hK hP hD hS 0 rfl rfl 0 (by decide) (hts _ (mb tb_92)) (fun _ h9 => h9) rfl (by decide +kernel) rfl rfl (Nat.le_of_ble_eq_true rfl) dX1_copyFrom_5 (fun H locs hP hD hS => ?_)
  have hP : va_P D vwCl [oX1 a0 cp1_count a_product a_last a_cost a_state a_byLast, rI cI a_product 24 c_product, rI cI a_last 24 c_last, rI cI a_cost 24 c_cost, rI cI a_state 24 c_state, rI cI a_byLast 24 c_byLast, oX1 ap1 cp1_count ap1_product ap1_last ap1_cost ap1_state ap1_byLast, rI cI ap1_product 24 cp1_product, rI cI ap1_last 24 cp1_last, rI cI ap1_cost 24 cp1_cost, rI cI ap1_state 24 cp1_state, rI cI ap1_byLast 24 cp1_byLast] H := hP
  have hD : va_D A [oX1 a0 cp1_count a_product a_last a_cost a_state a_byLast, rI cI a_product 24 c_product, rI cI a_last 24 c_last, rI cI a_cost 24 c_cost, rI cI a_state 24 c_state, rI cI a_byLast 24 c_byLast, oX1 ap1 cp1_count ap1_product ap1_last ap1_cost ap1_state ap1_byLast, rI cI ap1_product 24 cp1_product, rI cI ap1_last 24 cp1_last, rI cI ap1_cost 24 cp1_cost, rI cI ap1_state 24 cp1_state, rI cI ap1_byLast 24 cp1_byLast] := hD
  refine lv_aload_n hx hb dX1_copyFrom_8 rfl (lv_at hl 1 rfl) ?_
  refine va_get (D := D) (ci := 0) (v := .ref ap1_product) (C := RX1) (T := TX1) (N := 6) hx hb hts (fun w h => mb (iX1 w h)) hown hK hP 6 rfl rfl 1 (by decide) (hts _ (mb tb_95)) (fun _ h9 => h9) rfl dX1_copyFrom_9 ?_
  refine lv_iconst (v := 0) hx hb dX1_copyFrom_12 (by decide) ?_
  refine lv_aload_n hx hb dX1_copyFrom_13 rfl (lv_at hl 0 rfl) ?_
  refine va_get (D := D) (ci := 0) (v := .ref a_product) (C := RX1) (T := TX1) (N := 6) hx hb hts (fun w h => mb (iX1 w h)) hown hK hP 0 rfl rfl 1 (by decide) (hts _ (mb tb_95)) (fun _ h9 => h9) rfl dX1_copyFrom_14 ?_
  refine lv_iconst (v := 0) hx hb dX1_copyFrom_17 (by decide) ?_
  refine lv_aload_n hx hb dX1_copyFrom_18 rfl (lv_at hl 0 rfl) ?_
  refine va_get (D := D) (ci := 0) (v := .ref a_product) (C := RX1) (T := TX1) (N := 6) hx hb hts (fun w h => mb (iX1 w h)) hown hK hP 0 rfl rfl 1 (by decide) (hts _ (mb tb_95)) (fun _ h9 => h9) rfl dX1_copyFrom_19 ?_
  refine va_alen (v := 24) hx hb hK hP 1 0 rfl rfl rfl dX1_copyFrom_22 ?_
  refine va_copyi (ty := .int) hx hb (hml.trans hl.1.symm) hown (hts _ (mb tb_445)) (hts _ (mb tb_435)) (hts _ (mb tb_434)) (hts _ (mb tb_14)) hK hP hD hS 7 1 0 0 rfl rfl rfl rfl rfl (by decide) (by decide) (by decide) (by decide) (by decide) (fun _ _ => rfl) (Nat.le_of_ble_eq_true rfl) (Nat.le_of_ble_eq_true rfl) dX1_copyFrom_23 (fun H locs hP hD hS => ?_)
  have hP : va_P D vwCl [oX1 a0 cp1_count a_product a_last a_cost a_state a_byLast, rI cI a_product 24 (va_cpy cp1_product c_product (0 : Int32).toNatClampNeg (0 : Int32).toNatClampNeg (24 : Int32).toNatClampNeg), rI cI a_last 24 c_last, rI cI a_cost 24 c_cost, rI cI a_state 24 c_state, rI cI a_byLast 24 c_byLast, oX1 ap1 cp1_count ap1_product ap1_last ap1_cost ap1_state ap1_byLast, rI cI ap1_product 24 cp1_product, rI cI ap1_last 24 cp1_last, rI cI ap1_cost 24 cp1_cost, rI cI ap1_state 24 cp1_state, rI cI ap1_byLast 24 cp1_byLast] H := hP
  have hD : va_D A [oX1 a0 cp1_count a_product a_last a_cost a_state a_byLast, rI cI a_product 24 (va_cpy cp1_product c_product (0 : Int32).toNatClampNeg (0 : Int32).toNatClampNeg (24 : Int32).toNatClampNeg), rI cI a_last 24 c_last, rI cI a_cost 24 c_cost, rI cI a_state 24 c_state, rI cI a_byLast 24 c_byLast, oX1 ap1 cp1_count ap1_product ap1_last ap1_cost ap1_state ap1_byLast, rI cI ap1_product 24 cp1_product, rI cI ap1_last 24 cp1_last, rI cI ap1_cost 24 cp1_cost, rI cI ap1_state 24 cp1_state, rI cI ap1_byLast 24 cp1_byLast] := hD
  refine lv_aload_n hx hb dX1_copyFrom_26 rfl (lv_at hl 1 rfl) ?_
  refine va_get (D := D) (ci := 0) (v := .ref ap1_last) (C := RX1) (T := TX1) (N := 6) hx hb hts (fun w h => mb (iX1 w h)) hown hK hP 6 rfl rfl 2 (by decide) (hts _ (mb tb_97)) (fun _ h9 => h9) rfl dX1_copyFrom_27 ?_
  refine lv_iconst (v := 0) hx hb dX1_copyFrom_30 (by decide) ?_
  refine lv_aload_n hx hb dX1_copyFrom_31 rfl (lv_at hl 0 rfl) ?_
  refine va_get (D := D) (ci := 0) (v := .ref a_last) (C := RX1) (T := TX1) (N := 6) hx hb hts (fun w h => mb (iX1 w h)) hown hK hP 0 rfl rfl 2 (by decide) (hts _ (mb tb_97)) (fun _ h9 => h9) rfl dX1_copyFrom_32 ?_
  refine lv_iconst (v := 0) hx hb dX1_copyFrom_35 (by decide) ?_
  refine lv_aload_n hx hb dX1_copyFrom_36 rfl (lv_at hl 0 rfl) ?_
  refine va_get (D := D) (ci := 0) (v := .ref a_last) (C := RX1) (T := TX1) (N := 6) hx hb hts (fun w h => mb (iX1 w h)) hown hK hP 0 rfl rfl 2 (by decide) (hts _ (mb tb_97)) (fun _ h9 => h9) rfl dX1_copyFrom_37 ?_
  refine va_alen (v := 24) hx hb hK hP 2 0 rfl rfl rfl dX1_copyFrom_40 ?_
  refine va_copyi (ty := .int) hx hb (hml.trans hl.1.symm) hown (hts _ (mb tb_445)) (hts _ (mb tb_435)) (hts _ (mb tb_434)) (hts _ (mb tb_14)) hK hP hD hS 8 2 0 0 rfl rfl rfl rfl rfl (by decide) (by decide) (by decide) (by decide) (by decide) (fun _ _ => rfl) (Nat.le_of_ble_eq_true rfl) (Nat.le_of_ble_eq_true rfl) dX1_copyFrom_41 (fun H locs hP hD hS => ?_)
  have hP : va_P D vwCl [oX1 a0 cp1_count a_product a_last a_cost a_state a_byLast, rI cI a_product 24 (va_cpy cp1_product c_product (0 : Int32).toNatClampNeg (0 : Int32).toNatClampNeg (24 : Int32).toNatClampNeg), rI cI a_last 24 (va_cpy cp1_last c_last (0 : Int32).toNatClampNeg (0 : Int32).toNatClampNeg (24 : Int32).toNatClampNeg), rI cI a_cost 24 c_cost, rI cI a_state 24 c_state, rI cI a_byLast 24 c_byLast, oX1 ap1 cp1_count ap1_product ap1_last ap1_cost ap1_state ap1_byLast, rI cI ap1_product 24 cp1_product, rI cI ap1_last 24 cp1_last, rI cI ap1_cost 24 cp1_cost, rI cI ap1_state 24 cp1_state, rI cI ap1_byLast 24 cp1_byLast] H := hP
  have hD : va_D A [oX1 a0 cp1_count a_product a_last a_cost a_state a_byLast, rI cI a_product 24 (va_cpy cp1_product c_product (0 : Int32).toNatClampNeg (0 : Int32).toNatClampNeg (24 : Int32).toNatClampNeg), rI cI a_last 24 (va_cpy cp1_last c_last (0 : Int32).toNatClampNeg (0 : Int32).toNatClampNeg (24 : Int32).toNatClampNeg), rI cI a_cost 24 c_cost, rI cI a_state 24 c_state, rI cI a_byLast 24 c_byLast, oX1 ap1 cp1_count ap1_product ap1_last ap1_cost ap1_state ap1_byLast, rI cI ap1_product 24 cp1_product, rI cI ap1_last 24 cp1_last, rI cI ap1_cost 24 cp1_cost, rI cI ap1_state 24 cp1_state, rI cI ap1_byLast 24 cp1_byLast] := hD
  refine lv_aload_n hx hb dX1_copyFrom_44 rfl (lv_at hl 1 rfl) ?_
  refine va_get (D := D) (ci := 0) (v := .ref ap1_cost) (C := RX1) (T := TX1) (N := 6) hx hb hts (fun w h => mb (iX1 w h)) hown hK hP 6 rfl rfl 3 (by decide) (hts _ (mb tb_99)) (fun _ h9 => h9) rfl dX1_copyFrom_45 ?_
  refine lv_iconst (v := 0) hx hb dX1_copyFrom_48 (by decide) ?_
  refine lv_aload_n hx hb dX1_copyFrom_49 rfl (lv_at hl 0 rfl) ?_
  refine va_get (D := D) (ci := 0) (v := .ref a_cost) (C := RX1) (T := TX1) (N := 6) hx hb hts (fun w h => mb (iX1 w h)) hown hK hP 0 rfl rfl 3 (by decide) (hts _ (mb tb_99)) (fun _ h9 => h9) rfl dX1_copyFrom_50 ?_
  refine lv_iconst (v := 0) hx hb dX1_copyFrom_53 (by decide) ?_
  refine lv_aload_n hx hb dX1_copyFrom_54 rfl (lv_at hl 0 rfl) ?_
  refine va_get (D := D) (ci := 0) (v := .ref a_cost) (C := RX1) (T := TX1) (N := 6) hx hb hts (fun w h => mb (iX1 w h)) hown hK hP 0 rfl rfl 3 (by decide) (hts _ (mb tb_99)) (fun _ h9 => h9) rfl dX1_copyFrom_55 ?_
  refine va_alen (v := 24) hx hb hK hP 3 0 rfl rfl rfl dX1_copyFrom_58 ?_
  refine va_copyi (ty := .int) hx hb (hml.trans hl.1.symm) hown (hts _ (mb tb_445)) (hts _ (mb tb_435)) (hts _ (mb tb_434)) (hts _ (mb tb_14)) hK hP hD hS 9 3 0 0 rfl rfl rfl rfl rfl (by decide) (by decide) (by decide) (by decide) (by decide) (fun _ _ => rfl) (Nat.le_of_ble_eq_true rfl) (Nat.le_of_ble_eq_true rfl) dX1_copyFrom_59 (fun H locs hP hD hS => ?_)
  have hP : va_P D vwCl [oX1 a0 cp1_count a_product a_last a_cost a_state a_byLast, rI cI a_product 24 (va_cpy cp1_product c_product (0 : Int32).toNatClampNeg (0 : Int32).toNatClampNeg (24 : Int32).toNatClampNeg), rI cI a_last 24 (va_cpy cp1_last c_last (0 : Int32).toNatClampNeg (0 : Int32).toNatClampNeg (24 : Int32).toNatClampNeg), rI cI a_cost 24 (va_cpy cp1_cost c_cost (0 : Int32).toNatClampNeg (0 : Int32).toNatClampNeg (24 : Int32).toNatClampNeg), rI cI a_state 24 c_state, rI cI a_byLast 24 c_byLast, oX1 ap1 cp1_count ap1_product ap1_last ap1_cost ap1_state ap1_byLast, rI cI ap1_product 24 cp1_product, rI cI ap1_last 24 cp1_last, rI cI ap1_cost 24 cp1_cost, rI cI ap1_state 24 cp1_state, rI cI ap1_byLast 24 cp1_byLast] H := hP
  have hD : va_D A [oX1 a0 cp1_count a_product a_last a_cost a_state a_byLast, rI cI a_product 24 (va_cpy cp1_product c_product (0 : Int32).toNatClampNeg (0 : Int32).toNatClampNeg (24 : Int32).toNatClampNeg), rI cI a_last 24 (va_cpy cp1_last c_last (0 : Int32).toNatClampNeg (0 : Int32).toNatClampNeg (24 : Int32).toNatClampNeg), rI cI a_cost 24 (va_cpy cp1_cost c_cost (0 : Int32).toNatClampNeg (0 : Int32).toNatClampNeg (24 : Int32).toNatClampNeg), rI cI a_state 24 c_state, rI cI a_byLast 24 c_byLast, oX1 ap1 cp1_count ap1_product ap1_last ap1_cost ap1_state ap1_byLast, rI cI ap1_product 24 cp1_product, rI cI ap1_last 24 cp1_last, rI cI ap1_cost 24 cp1_cost, rI cI ap1_state 24 cp1_state, rI cI ap1_byLast 24 cp1_byLast] := hD
  refine lv_aload_n hx hb dX1_copyFrom_62 rfl (lv_at hl 1 rfl) ?_
  refine va_get (D := D) (ci := 0) (v := .ref ap1_state) (C := RX1) (T := TX1) (N := 6) hx hb hts (fun w h => mb (iX1 w h)) hown hK hP 6 rfl rfl 4 (by decide) (hts _ (mb tb_101)) (fun _ h9 => h9) rfl dX1_copyFrom_63 ?_
  refine lv_iconst (v := 0) hx hb dX1_copyFrom_66 (by decide) ?_
  refine lv_aload_n hx hb dX1_copyFrom_67 rfl (lv_at hl 0 rfl) ?_
  refine va_get (D := D) (ci := 0) (v := .ref a_state) (C := RX1) (T := TX1) (N := 6) hx hb hts (fun w h => mb (iX1 w h)) hown hK hP 0 rfl rfl 4 (by decide) (hts _ (mb tb_101)) (fun _ h9 => h9) rfl dX1_copyFrom_68 ?_
  refine lv_iconst (v := 0) hx hb dX1_copyFrom_71 (by decide) ?_
  refine lv_aload_n hx hb dX1_copyFrom_72 rfl (lv_at hl 0 rfl) ?_
  refine va_get (D := D) (ci := 0) (v := .ref a_state) (C := RX1) (T := TX1) (N := 6) hx hb hts (fun w h => mb (iX1 w h)) hown hK hP 0 rfl rfl 4 (by decide) (hts _ (mb tb_101)) (fun _ h9 => h9) rfl dX1_copyFrom_73 ?_
  refine va_alen (v := 24) hx hb hK hP 4 0 rfl rfl rfl dX1_copyFrom_76 ?_
  refine va_copyi (ty := .int) hx hb (hml.trans hl.1.symm) hown (hts _ (mb tb_445)) (hts _ (mb tb_435)) (hts _ (mb tb_434)) (hts _ (mb tb_14)) hK hP hD hS 10 4 0 0 rfl rfl rfl rfl rfl (by decide) (by decide) (by decide) (by decide) (by decide) (fun _ _ => rfl) (Nat.le_of_ble_eq_true rfl) (Nat.le_of_ble_eq_true rfl) dX1_copyFrom_77 (fun H locs hP hD hS => ?_)
  have hP : va_P D vwCl [oX1 a0 cp1_count a_product a_last a_cost a_state a_byLast, rI cI a_product 24 (va_cpy cp1_product c_product (0 : Int32).toNatClampNeg (0 : Int32).toNatClampNeg (24 : Int32).toNatClampNeg), rI cI a_last 24 (va_cpy cp1_last c_last (0 : Int32).toNatClampNeg (0 : Int32).toNatClampNeg (24 : Int32).toNatClampNeg), rI cI a_cost 24 (va_cpy cp1_cost c_cost (0 : Int32).toNatClampNeg (0 : Int32).toNatClampNeg (24 : Int32).toNatClampNeg), rI cI a_state 24 (va_cpy cp1_state c_state (0 : Int32).toNatClampNeg (0 : Int32).toNatClampNeg (24 : Int32).toNatClampNeg), rI cI a_byLast 24 c_byLast, oX1 ap1 cp1_count ap1_product ap1_last ap1_cost ap1_state ap1_byLast, rI cI ap1_product 24 cp1_product, rI cI ap1_last 24 cp1_last, rI cI ap1_cost 24 cp1_cost, rI cI ap1_state 24 cp1_state, rI cI ap1_byLast 24 cp1_byLast] H := hP
  have hD : va_D A [oX1 a0 cp1_count a_product a_last a_cost a_state a_byLast, rI cI a_product 24 (va_cpy cp1_product c_product (0 : Int32).toNatClampNeg (0 : Int32).toNatClampNeg (24 : Int32).toNatClampNeg), rI cI a_last 24 (va_cpy cp1_last c_last (0 : Int32).toNatClampNeg (0 : Int32).toNatClampNeg (24 : Int32).toNatClampNeg), rI cI a_cost 24 (va_cpy cp1_cost c_cost (0 : Int32).toNatClampNeg (0 : Int32).toNatClampNeg (24 : Int32).toNatClampNeg), rI cI a_state 24 (va_cpy cp1_state c_state (0 : Int32).toNatClampNeg (0 : Int32).toNatClampNeg (24 : Int32).toNatClampNeg), rI cI a_byLast 24 c_byLast, oX1 ap1 cp1_count ap1_product ap1_last ap1_cost ap1_state ap1_byLast, rI cI ap1_product 24 cp1_product, rI cI ap1_last 24 cp1_last, rI cI ap1_cost 24 cp1_cost, rI cI ap1_state 24 cp1_state, rI cI ap1_byLast 24 cp1_byLast] := hD
  refine lv_aload_n hx hb dX1_copyFrom_80 rfl (lv_at hl 1 rfl) ?_
  refine va_get (D := D) (ci := 0) (v := .ref ap1_byLast) (C := RX1) (T := TX1) (N := 6) hx hb hts (fun w h => mb (iX1 w h)) hown hK hP 6 rfl rfl 5 (by decide) (hts _ (mb tb_103)) (fun _ h9 => h9) rfl dX1_copyFrom_81 ?_
  refine lv_iconst (v := 0) hx hb dX1_copyFrom_84 (by decide) ?_
  refine lv_aload_n hx hb dX1_copyFrom_85 rfl (lv_at hl 0 rfl) ?_
  refine va_get (D := D) (ci := 0) (v := .ref a_byLast) (C := RX1) (T := TX1) (N := 6) hx hb hts (fun w h => mb (iX1 w h)) hown hK hP 0 rfl rfl 5 (by decide) (hts _ (mb tb_103)) (fun _ h9 => h9) rfl dX1_copyFrom_86 ?_
  refine lv_iconst (v := 0) hx hb dX1_copyFrom_89 (by decide) ?_
  refine lv_aload_n hx hb dX1_copyFrom_90 rfl (lv_at hl 0 rfl) ?_
  refine va_get (D := D) (ci := 0) (v := .ref a_byLast) (C := RX1) (T := TX1) (N := 6) hx hb hts (fun w h => mb (iX1 w h)) hown hK hP 0 rfl rfl 5 (by decide) (hts _ (mb tb_103)) (fun _ h9 => h9) rfl dX1_copyFrom_91 ?_
  refine va_alen (v := 24) hx hb hK hP 5 0 rfl rfl rfl dX1_copyFrom_94 ?_
  refine va_copyi (ty := .int) hx hb (hml.trans hl.1.symm) hown (hts _ (mb tb_445)) (hts _ (mb tb_435)) (hts _ (mb tb_434)) (hts _ (mb tb_14)) hK hP hD hS 11 5 0 0 rfl rfl rfl rfl rfl (by decide) (by decide) (by decide) (by decide) (by decide) (fun _ _ => rfl) (Nat.le_of_ble_eq_true rfl) (Nat.le_of_ble_eq_true rfl) dX1_copyFrom_95 (fun H locs hP hD hS => ?_)
  have hP : va_P D vwCl [oX1 a0 cp1_count a_product a_last a_cost a_state a_byLast, rI cI a_product 24 (va_cpy cp1_product c_product (0 : Int32).toNatClampNeg (0 : Int32).toNatClampNeg (24 : Int32).toNatClampNeg), rI cI a_last 24 (va_cpy cp1_last c_last (0 : Int32).toNatClampNeg (0 : Int32).toNatClampNeg (24 : Int32).toNatClampNeg), rI cI a_cost 24 (va_cpy cp1_cost c_cost (0 : Int32).toNatClampNeg (0 : Int32).toNatClampNeg (24 : Int32).toNatClampNeg), rI cI a_state 24 (va_cpy cp1_state c_state (0 : Int32).toNatClampNeg (0 : Int32).toNatClampNeg (24 : Int32).toNatClampNeg), rI cI a_byLast 24 (va_cpy cp1_byLast c_byLast (0 : Int32).toNatClampNeg (0 : Int32).toNatClampNeg (24 : Int32).toNatClampNeg), oX1 ap1 cp1_count ap1_product ap1_last ap1_cost ap1_state ap1_byLast, rI cI ap1_product 24 cp1_product, rI cI ap1_last 24 cp1_last, rI cI ap1_cost 24 cp1_cost, rI cI ap1_state 24 cp1_state, rI cI ap1_byLast 24 cp1_byLast] H := hP
  have hD : va_D A [oX1 a0 cp1_count a_product a_last a_cost a_state a_byLast, rI cI a_product 24 (va_cpy cp1_product c_product (0 : Int32).toNatClampNeg (0 : Int32).toNatClampNeg (24 : Int32).toNatClampNeg), rI cI a_last 24 (va_cpy cp1_last c_last (0 : Int32).toNatClampNeg (0 : Int32).toNatClampNeg (24 : Int32).toNatClampNeg), rI cI a_cost 24 (va_cpy cp1_cost c_cost (0 : Int32).toNatClampNeg (0 : Int32).toNatClampNeg (24 : Int32).toNatClampNeg), rI cI a_state 24 (va_cpy cp1_state c_state (0 : Int32).toNatClampNeg (0 : Int32).toNatClampNeg (24 : Int32).toNatClampNeg), rI cI a_byLast 24 (va_cpy cp1_byLast c_byLast (0 : Int32).toNatClampNeg (0 : Int32).toNatClampNeg (24 : Int32).toNatClampNeg), oX1 ap1 cp1_count ap1_product ap1_last ap1_cost ap1_state ap1_byLast, rI cI ap1_product 24 cp1_product, rI cI ap1_last 24 cp1_last, rI cI ap1_cost 24 cp1_cost, rI cI ap1_state 24 cp1_state, rI cI ap1_byLast 24 cp1_byLast] := hD
  cases hf
  refine W.widen (k := 0) (n := 0) (Nat.le_of_ble_eq_true rfl) (Nat.le_of_ble_eq_true rfl) ?_
  exact W.vret hx hb hr (fun t ht hW => ⟨⟨(), rfl, trivial, (by show va_P D vwCl _ t.heap; rw [ht]; exact hP)⟩, hS.F ht⟩) hS.2.2 dX1_copyFrom_98
