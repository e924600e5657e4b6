def f_X5_exists (v1 : Int32) (c_places : Int32) : Option (Int32) :=
  (if v1 < 0 then some 0
  else (if c_places ≤ v1 then some 0
  else (if 48 ≤ v1 then some 0
  else some 1)))
set_option maxHeartbeats 4000000 in
set_option maxRecDepth 100000 in
theorem k_X5_exists (l : Launch) (hl0 : l.stackTraces = false) (D : va_G) (cI cJ cZ cS : ClassId) (B0 : Nat) (H0 : Heap) (a0 a_lot a_pieces a_mark a_byDistance : Nat) (c_lanes : Int32) (c_positions : Int32) (c_room : Int32) (c_gap : Int32) (c_places : Int32) (c_picked : Int64) (v1 : Int32) (r9 : Int32)  (hf : f_X5_exists v1 c_places = some r9) : Met l yX5_exists (wz yX5_exists cX5_exists 2 (some .boolean)) ({ frames := 0, cells := 0, slots := 0, locals := 0 }) (va_Pc [.ref a0, .int v1] (rp D cI cJ cZ cS B0 [oX5 a0 c_lanes c_positions c_room c_gap c_places c_picked a_lot a_pieces a_mark a_byDistance] H0)) (va_Qi (fun (r2 : Int32) (_ : Unit) => r2 = r9) (fun _ t => t.heap = H0) (fun q => H0.size ≤ q)) 0 0 (fun q => H0.size ≤ q) := by
  refine Met.ofW (cc := cX5_exists) (maxL := 2) (ret := (some .boolean)) (by decide) rfl ?_
  intro p e s m args below meth c s₁ B hml hv
  obtain ⟨rfl, hH, hP, hK, hB0, hE⟩ := hv
  subst hH
  have hx := B.exec
  have hb := B.bytes
  have hr := B.returns
  have hts := atoms_spec (ws := (wz yX5_exists cX5_exists 2 (some .boolean))) B.pre
  have hown : s.vm.findClass RX5 = some m.cls := findClass_of_methodNamed B.named
  have hlocks := B.notSynchronized
  have hAB : ∀ q : Nat, s.heap.size ≤ q → B0 ≤ q := fun q h => Nat.le_trans hB0 h
  have hA : ∀ q : Nat, s.heap.size ≤ q → s.heap.size ≤ q := fun _ h => h
  have hS : va_S (fun q => s.heap.size ≤ q) s.heap s.heap [] := va_S.rf
  have hBn := fun (H : Heap) (locs : List Loc) (h : va_S (fun q => s.heap.size ≤ q) s.heap H locs) => Nat.le_trans hB0 h.1
  have hEn := fun (H : Heap) (locs : List Loc) (h : va_S (fun q => s.heap.size ≤ q) s.heap H locs) => gE_now hE h hAB
  have hl := lv_entry ([.ref a0, .int v1]) (n := 2) (Nat.le_of_ble_eq_true rfl)
  rw [lg_entry_eq]
  generalize (lg_sl ([.ref a0, .int v1]) ++ List.replicate (2 - (lg_sl ([.ref a0, .int v1])).length) Slot.unset).toArray = ls at hl ⊢
  have hl : lv_has ls 2 [(0, .ref a0), (1, .int v1)] := hl
  obtain ⟨H, hHe⟩ : ∃ H : Heap, H = s.heap := ⟨_, rfl⟩
  have hP : va_P D vwCl [oX5 a0 c_lanes c_positions c_room c_gap c_places c_picked a_lot a_pieces a_mark a_byDistance] H := by rw [hHe]; exact hP
  have hS : va_S (fun q => s.heap.size ≤ q) s.heap H [] := by rw [hHe]; exact hS
  refine W_heq hHe ?_
  unfold f_X5_exists at hf
  refine lv_iload_n hx hb dX5_exists_0 rfl (lv_at hl 1 rfl) ?_
  refine lv_if_lt (tgt := 22) hx hb dX5_exists_1 (by decide) (fun h1 => ?_) (fun h1 => ?_)
  · have hf := ipos h1 hf
    refine lv_iconst (v := 0) hx hb dX5_exists_22 (by decide) ?_
    cases hf
    exact W.zret hx hb hr rfl (fun t ht hW => ⟨⟨_, (), rfl, rfl, (ht.trans hHe)⟩, hS.F ht⟩) hS.2.2 dX5_exists_23
  · have hf := ineg h1 hf
    refine lv_iload_n hx hb dX5_exists_4 rfl (lv_at hl 1 rfl) ?_
    refine lv_aload_n hx hb dX5_exists_5 rfl (lv_at hl 0 rfl) ?_
    refine va_get (D := D) (ci := 4) (v := .int c_places) (C := RX5) (T := TX5) (N := 10) hx hb hts (fun w h => mb (iX5 w h)) hown hK hP 0 rfl rfl 4 (by decide) (hts _ (mb tb_53)) (fun _ h9 => h9) rfl dX5_exists_6 ?_
    refine lv_icmp_ge (tgt := 22) hx hb dX5_exists_9 (by decide) (fun h2 => ?_) (fun h2 => ?_)
    · have hf := ipos h2 hf
      refine lv_iconst (v := 0) hx hb dX5_exists_22 (by decide) ?_
      cases hf
      exact W.zret hx hb hr rfl (fun t ht hW => ⟨⟨_, (), rfl, rfl, (ht.trans hHe)⟩, hS.F ht⟩) hS.2.2 dX5_exists_23
    · have hf := ineg h2 hf
      refine lv_iload_n hx hb dX5_exists_12 rfl (lv_at hl 1 rfl) ?_
      refine lv_bipush (v := 48) hx hb dX5_exists_13 (by decide) ?_
      refine lv_icmp_ge (tgt := 22) hx hb dX5_exists_15 (by decide) (fun h3 => ?_) (fun h3 => ?_)
      · have hf := ipos h3 hf
        refine lv_iconst (v := 0) hx hb dX5_exists_22 (by decide) ?_
        cases hf
        exact W.zret hx hb hr rfl (fun t ht hW => ⟨⟨_, (), rfl, rfl, (ht.trans hHe)⟩, hS.F ht⟩) hS.2.2 dX5_exists_23
      · have hf := ineg h3 hf
        refine lv_iconst (v := 1) hx hb dX5_exists_18 (by decide) ?_
        refine lv_goto (tgt := 23) hx hb dX5_exists_19 (by decide) ?_
        cases hf
        exact W.zret hx hb hr rfl (fun t ht hW => ⟨⟨_, (), rfl, rfl, (ht.trans hHe)⟩, hS.F ht⟩) hS.2.2 dX5_exists_23
def f_X5_set_J22 (n1 : Int32) (n3 : Int32) (n4 : Int32) (t1 : Int32) (t2 : Int32) (c_places : Int32) (c_lot : Nat → Int32) (c_pieces : Nat → Int32) (c_mark : Nat → Int32) : Option ((Nat → Int32) × (Nat → Int32) × (Nat → Int32)) :=
  gd t1 48 (gd n1 48 (gd n1 48 (some (upd c_lot t1.toNatClampNeg t2, upd c_pieces n1.toNatClampNeg n3, upd c_mark n1.toNatClampNeg n4))))
def f_X5_set (v1 : Int32) (v2 : Int32) (v3 : Int32) (v4 : Int32) (c_places : Int32) (c_lot : Nat → Int32) (c_pieces : Nat → Int32) (c_mark : Nat → Int32) : Option ((Nat → Int32) × (Nat → Int32) × (Nat → Int32)) :=
  bnd1 (f_X5_exists v1 c_places) (fun r1 =>
  ((if r1 = 0 then some (c_lot, c_pieces, c_mark)
  else (if v3 = 0 then f_X5_set_J22 v1 v3 v4 v1 (-1) c_places c_lot c_pieces c_mark
  else f_X5_set_J22 v1 v3 v4 v1 v2 c_places c_lot c_pieces c_mark))))
set_option maxHeartbeats 4000000 in
set_option maxRecDepth 100000 in
theorem k_X5_set (l : Launch) (hl0 : l.stackTraces = false) (D : va_G) (cI cJ cZ cS : ClassId) (B0 : Nat) (sz : Nat) (a0 a_lot a_pieces a_mark a_byDistance : Nat) (c_lanes : Int32) (c_positions : Int32) (c_room : Int32) (c_gap : Int32) (c_places : Int32) (c_picked : Int64) (c_lot : Nat → Int32) (c_pieces : Nat → Int32) (c_mark : Nat → Int32) (v1 : Int32) (v2 : Int32) (v3 : Int32) (v4 : Int32) (oc_lot : Nat → Int32) (oc_pieces : Nat → Int32) (oc_mark : Nat → Int32)  (hf : f_X5_set v1 v2 v3 v4 c_places c_lot c_pieces c_mark = some (oc_lot, oc_pieces, oc_mark)) : Met l yX5_set (wz yX5_set cX5_set 5 none) ({ frames := 1, cells := 0, slots := 0, locals := 21 }) (va_Pc [.ref a0, .int v1, .int v2, .int v3, .int v4] (wp D cI cJ cZ cS B0 [oX5 a0 c_lanes c_positions c_room c_gap c_places c_picked a_lot a_pieces a_mark a_byDistance, rI cI a_lot 48 c_lot, rI cI a_pieces 48 c_pieces, rI cI a_mark 48 c_mark] sz)) (va_Qv (fun (_ : Unit) => True) (fun _ t => va_P D vwCl [oX5 a0 c_lanes c_positions c_room c_gap c_places c_picked a_lot a_pieces a_mark a_byDistance, rI cI a_lot 48 oc_lot, rI cI a_pieces 48 oc_pieces, rI cI a_mark 48 oc_mark] t.heap) (va_A [oX5 a0 c_lanes c_positions c_room c_gap c_places c_picked a_lot a_pieces a_mark a_byDistance, rI cI a_lot 48 c_lot, rI cI a_pieces 48 c_pieces, rI cI a_mark 48 c_mark] sz)) 0 0 (va_A [oX5 a0 c_lanes c_positions c_room c_gap c_places c_picked a_lot a_pieces a_mark a_byDistance, rI cI a_lot 48 c_lot, rI cI a_pieces 48 c_pieces, rI cI a_mark 48 c_mark] sz) := by
  refine Met.ofW (cc := cX5_set) (maxL := 5) (ret := none) (by decide) rfl ?_
  intro p e s m args below meth c s₁ B hml hv
  obtain ⟨rfl, hsz, hP, hK, hD0, hB0, hE⟩ := hv
  subst hsz
  have hx := B.exec
  have hb := B.bytes
  have hr := B.returns
  have hts := atoms_spec (ws := (wz yX5_set cX5_set 5 none)) B.pre
  have hown : s.vm.findClass RX5 = some m.cls := findClass_of_methodNamed B.named
  have hlocks := B.notSynchronized
  have hD := hD0.self (sz := s.heap.size)
  have hAB : ∀ q : Nat, va_A [oX5 a0 c_lanes c_positions c_room c_gap c_places c_picked a_lot a_pieces a_mark a_byDistance, rI cI a_lot 48 c_lot, rI cI a_pieces 48 c_pieces, rI cI a_mark 48 c_mark] s.heap.size q → B0 ≤ q := va_A_B hD0 hB0
  generalize hAe : va_A [oX5 a0 c_lanes c_positions c_room c_gap c_places c_picked a_lot a_pieces a_mark a_byDistance, rI cI a_lot 48 c_lot, rI cI a_pieces 48 c_pieces, rI cI a_mark 48 c_mark] s.heap.size = A at hD hAB ⊢
  have hA : ∀ q : Nat, s.heap.size ≤ q → A q := fun q h => by rw [← hAe]; exact Or.inr h
  have hFa := hA
  have hS : va_S A s.heap s.heap [] := va_S.rf
  have hBn := fun (H : Heap) (locs : List Loc) (h : va_S A s.heap H locs) => Nat.le_trans hB0 h.1
  have hEn := fun (H : Heap) (locs : List Loc) (h : va_S A s.heap H locs) => gE_now hE h hAB
  have hl := lv_entry ([.ref a0, .int v1, .int v2, .int v3, .int v4]) (n := 5) (Nat.le_of_ble_eq_true rfl)
  rw [lg_entry_eq]
  generalize (lg_sl ([.ref a0, .int v1, .int v2, .int v3, .int v4]) ++ List.replicate (5 - (lg_sl ([.ref a0, .int v1, .int v2, .int v3, .int v4])).length) Slot.unset).toArray = ls at hl ⊢
  have hl : lv_has ls 5 [(0, .ref a0), (1, .int v1), (2, .int v2), (3, .int v3), (4, .int v4)] := hl
  obtain ⟨H, hHe⟩ : ∃ H : Heap, H = s.heap := ⟨_, rfl⟩
  have hP : va_P D vwCl [oX5 a0 c_lanes c_positions c_room c_gap c_places c_picked a_lot a_pieces a_mark a_byDistance, rI cI a_lot 48 c_lot, rI cI a_pieces 48 c_pieces, rI cI a_mark 48 c_mark] H := by rw [hHe]; exact hP
  have hS : va_S A s.heap H [] := by rw [hHe]; exact hS
  refine W_heq hHe ?_
  unfold f_X5_set at hf
  refine gen_goW (fun WW hWW => ?_)
  have hJ22 : ∀ (n1 : Int32) (n3 : Int32) (n4 : Int32) (t1 : Int32) (t2 : Int32) (c_lot : Nat → Int32) (c_pieces : Nat → Int32) (c_mark : Nat → Int32), f_X5_set_J22 n1 n3 n4 t1 t2 c_places c_lot c_pieces c_mark = some (oc_lot, oc_pieces, oc_mark) → ∀ (H : Heap) (locs : List Loc) (ls : Array Slot), va_P D vwCl [oX5 a0 c_lanes c_positions c_room c_gap c_places c_picked a_lot a_pieces a_mark a_byDistance, rI cI a_lot 48 c_lot, rI cI a_pieces 48 c_pieces, rI cI a_mark 48 c_mark] H → va_D A [oX5 a0 c_lanes c_positions c_room c_gap c_places c_picked a_lot a_pieces a_mark a_byDistance, rI cI a_lot 48 c_lot, rI cI a_pieces 48 c_pieces, rI cI a_mark 48 c_mark] → va_S A s.heap H locs → lv_has ls 5 [(0, .ref a0), (1, .int n1), (3, .int n3), (4, .int n4)] → WW H locs 0 0 (F0 m 22 ls [.int t2, .int t1, .ref a_lot]) := by
    intro n1 n3 n4 t1 t2 c_lot c_pieces c_mark hf H locs ls hP hD hS hl
    unfold f_X5_set_J22 at hf
    refine (hWW _ _ _ _ _).mpr ?_
    obtain ⟨h5, hf⟩ := ob_d hf
    refine va_iast hx hb hK hP hD hS 1 0 rfl rfl h5 dX5_set_22 (fun H locs hP hD hS => ?_)
    have hP : va_P D vwCl [oX5 a0 c_lanes c_positions c_room c_gap c_places c_picked a_lot a_pieces a_mark a_byDistance, rI cI a_lot 48 (upd c_lot t1.toNatClampNeg t2), rI cI a_pieces 48 c_pieces, rI cI a_mark 48 c_mark] H := hP
    have hD : va_D A [oX5 a0 c_lanes c_positions c_room c_gap c_places c_picked a_lot a_pieces a_mark a_byDistance, rI cI a_lot 48 (upd c_lot t1.toNatClampNeg t2), rI cI a_pieces 48 c_pieces, rI cI a_mark 48 c_mark] := hD
    refine lv_aload_n hx hb dX5_set_23 rfl (lv_at hl 0 rfl) ?_
    refine va_get (D := D) (ci := 4) (v := .ref a_pieces) (C := RX5) (T := TX5) (N := 10) hx hb hts (fun w h => mb (iX5 w h)) hown hK hP 0 rfl rfl 7 (by decide) (hts _ (mb tb_59)) (fun _ h9 => h9) rfl dX5_set_24 ?_
    refine lv_iload_n hx hb dX5_set_27 rfl (lv_at hl 1 rfl) ?_
    refine lv_iload_n hx hb dX5_set_28 rfl (lv_at hl 2 rfl) ?_
    obtain ⟨h6, hf⟩ := ob_d hf
    refine va_iast hx hb hK hP hD hS 2 0 rfl rfl h6 dX5_set_29 (fun H locs hP hD hS => ?_)
    have hP : va_P D vwCl [oX5 a0 c_lanes c_positions c_room c_gap c_places c_picked a_lot a_pieces a_mark a_byDistance, rI cI a_lot 48 (upd c_lot t1.toNatClampNeg t2), rI cI a_pieces 48 (upd c_pieces n1.toNatClampNeg n3), rI cI a_mark 48 c_mark] H := hP
    have hD : va_D A [oX5 a0 c_lanes c_positions c_room c_gap c_places c_picked a_lot a_pieces a_mark a_byDistance, rI cI a_lot 48 (upd c_lot t1.toNatClampNeg t2), rI cI a_pieces 48 (upd c_pieces n1.toNatClampNeg n3), rI cI a_mark 48 c_mark] := hD
    refine lv_aload_n hx hb dX5_set_30 rfl (lv_at hl 0 rfl) ?_
    refine va_get (D := D) (ci := 4) (v := .ref a_mark) (C := RX5) (T := TX5) (N := 10) hx hb hts (fun w h => mb (iX5 w h)) hown hK hP 0 rfl rfl 8 (by decide) (hts _ (mb tb_61)) (fun _ h9 => h9) rfl dX5_set_31 ?_
    refine lv_iload_n hx hb dX5_set_34 rfl (lv_at hl 1 rfl) ?_
    refine lv_iload hx hb dX5_set_35 (lv_at hl 3 rfl) ?_
    obtain ⟨h7, hf⟩ := ob_d hf
    refine va_iast hx hb hK hP hD hS 3 0 rfl rfl h7 dX5_set_37 (fun H locs hP hD hS => ?_)
    have hP : va_P D vwCl [oX5 a0 c_lanes c_positions c_room c_gap c_places c_picked a_lot a_pieces a_mark a_byDistance, rI cI a_lot 48 (upd c_lot t1.toNatClampNeg t2), rI cI a_pieces 48 (upd c_pieces n1.toNatClampNeg n3), rI cI a_mark 48 (upd c_mark n1.toNatClampNeg n4)] H := hP
    have hD : va_D A [oX5 a0 c_lanes c_positions c_room c_gap c_places c_picked a_lot a_pieces a_mark a_byDistance, rI cI a_lot 48 (upd c_lot t1.toNatClampNeg t2), rI cI a_pieces 48 (upd c_pieces n1.toNatClampNeg n3), rI cI a_mark 48 (upd c_mark n1.toNatClampNeg n4)] := hD
    cases hf
    refine W.widen (k := 0) (n := 0) (Nat.le_of_ble_eq_true rfl) (Nat.le_of_ble_eq_true rfl) ?_
    exact W.vret hx hb hr (fun t ht hW => ⟨⟨(), rfl, trivial, (by show va_P D vwCl _ t.heap; rw [ht]; exact hP)⟩, hS.F ht⟩) hS.2.2 dX5_set_38
  refine (hWW _ _ _ _ _).mpr ?_
  refine lv_aload_n hx hb dX5_set_0 rfl (lv_at hl 0 rfl) ?_
  refine lv_iload_n hx hb dX5_set_1 rfl (lv_at hl 1 rfl) ?_
  obtain ⟨r1, hc2, hf⟩ := ob1 hf
  refine ro_calli (r := r1) (va_runV (As := [.int v1]) (rest := []) ⟨hx, hb, hml, hown, hts⟩ (k_X5_exists l hl0 D cI cJ cZ cS B0 H a0 a_lot a_pieces a_mark a_byDistance c_lanes c_positions c_room c_gap c_places c_picked v1 r1 hc2) (cwV 1 hts (gV tb_263 tb_264 tb_265 tb_3 tb_266) rfl rfl rfl (by decide +kernel) ⟨Nat.le_of_ble_eq_true rfl, Nat.le_of_ble_eq_true rfl⟩) ⟨rp_blind, va_recv hK hP (ci := 4) (q0 := 0) rfl rfl, rp_pre (hP.sub [0] rfl) hK (hBn _ _ hS) (hEn _ _ hS)⟩ rfl rfl hl.1 rfl (lv_room (Nat.le_of_ble_eq_true rfl)) dX5_set_2 ⟨Nat.le_of_ble_eq_true rfl, Nat.le_of_ble_eq_true rfl⟩) ?_
  refine lv_if_eq (tgt := 38) hx hb dX5_set_5 (by decide) (fun h3 => ?_) (fun h3 => ?_)
  · have hf := ipos h3 hf
    cases hf
    refine W.widen (k := 0) (n := 0) (Nat.le_of_ble_eq_true rfl) (Nat.le_of_ble_eq_true rfl) ?_
    exact W.vret hx hb hr (fun t ht hW => ⟨⟨(), rfl, trivial, (by show va_P D vwCl _ t.heap; rw [ht]; exact hP)⟩, hS.F ht⟩) hS.2.2 dX5_set_38
  · have hf := ineg h3 hf
    refine lv_aload_n hx hb dX5_set_8 rfl (lv_at hl 0 rfl) ?_
    refine va_get (D := D) (ci := 4) (v := .ref a_lot) (C := RX5) (T := TX5) (N := 10) hx hb hts (fun w h => mb (iX5 w h)) hown hK hP 0 rfl rfl 6 (by decide) (hts _ (mb tb_57)) (fun _ h9 => h9) rfl dX5_set_9 ?_
    refine lv_iload_n hx hb dX5_set_12 rfl (lv_at hl 1 rfl) ?_
    refine lv_iload_n hx hb dX5_set_13 rfl (lv_at hl 3 rfl) ?_
    refine lv_if_ne (tgt := 21) hx hb dX5_set_14 (by decide) (fun h4 => ?_) (fun h4 => ?_)
    · have hf := ineg h4 hf
      refine lv_iload_n hx hb dX5_set_21 rfl (lv_at hl 2 rfl) ?_
      exact (hWW _ _ _ _ _).mp (hJ22 _ _ _ _ _ _ _ _ hf _ _ ls hP hD hS (lv_sub hl [0, 1, 3, 4] rfl))
    · have hf := ipos h4 hf
      refine lv_iconst (v := (-1)) hx hb dX5_set_17 (by decide) ?_
      refine lv_goto (tgt := 22) hx hb dX5_set_18 (by decide) ?_
      exact (hWW _ _ _ _ _).mp (hJ22 _ _ _ _ _ _ _ _ hf _ _ ls hP hD hS (lv_sub hl [0, 1, 3, 4] rfl))
def f_X5_distanceOf (v1 : Int32) (c_positions : Int32) (c_gap : Int32) : Option (Int32) :=
  (if 1 ≤ c_positions then gz c_positions (gz c_positions (some (((c_gap * (v1 / c_positions)) + (v1 - v1 / c_positions * c_positions)) + 1)))
  else some 0)
set_option maxHeartbeats 4000000 in
set_option maxRecDepth 100000 in
theorem k_X5_distanceOf (l : Launch) (hl0 : l.stackTraces = false) (D : va_G) (cI cJ cZ cS : ClassId) (B0 : Nat) (H0 : Heap) (a0 a_lot a_pieces a_mark a_byDistance : Nat) (c_lanes : Int32) (c_positions : Int32) (c_room : Int32) (c_gap : Int32) (c_places : Int32) (c_picked : Int64) (v1 : Int32) (r9 : Int32)  (hf : f_X5_distanceOf v1 c_positions c_gap = some r9) : Met l yX5_distanceOf (wz yX5_distanceOf cX5_distanceOf 2 (some .int)) ({ frames := 0, cells := 0, slots := 0, locals := 0 }) (va_Pc [.ref a0, .int v1] (rp D cI cJ cZ cS B0 [oX5 a0 c_lanes c_positions c_room c_gap c_places c_picked a_lot a_pieces a_mark a_byDistance] H0)) (va_Qi (fun (r2 : Int32) (_ : Unit) => r2 = r9) (fun _ t => t.heap = H0) (fun q => H0.size ≤ q)) 0 0 (fun q => H0.size ≤ q) := by
  refine Met.ofW (cc := cX5_distanceOf) (maxL := 2) (ret := (some .int)) (by decide) rfl ?_
  intro p e s m args below meth c s₁ B hml hv
  obtain ⟨rfl, hH, hP, hK, hB0, hE⟩ := hv
  subst hH
  have hx := B.exec
  have hb := B.bytes
  have hr := B.returns
  have hts := atoms_spec (ws := (wz yX5_distanceOf cX5_distanceOf 2 (some .int))) B.pre
  have hown : s.vm.findClass RX5 = some m.cls := findClass_of_methodNamed B.named
  have hlocks := B.notSynchronized
  have hAB : ∀ q : Nat, s.heap.size ≤ q → B0 ≤ q := fun q h => Nat.le_trans hB0 h
  have hA : ∀ q : Nat, s.heap.size ≤ q → s.heap.size ≤ q := fun _ h => h
  have hS : va_S (fun q => s.heap.size ≤ q) s.heap s.heap [] := va_S.rf
  have hBn := fun (H : Heap) (locs : List Loc) (h : va_S (fun q => s.heap.size ≤ q) s.heap H locs) => Nat.le_trans hB0 h.1
  have hEn := fun (H : Heap) (locs : List Loc) (h : va_S (fun q => s.heap.size ≤ q) s.heap H locs) => gE_now hE h hAB
  have hl := lv_entry ([.ref a0, .int v1]) (n := 2) (Nat.le_of_ble_eq_true rfl)
  rw [lg_entry_eq]
  generalize (lg_sl ([.ref a0, .int v1]) ++ List.replicate (2 - (lg_sl ([.ref a0, .int v1])).length) Slot.unset).toArray = ls at hl ⊢
  have hl : lv_has ls 2 [(0, .ref a0), (1, .int v1)] := hl
  obtain ⟨H, hHe⟩ : ∃ H : Heap, H = s.heap := ⟨_, rfl⟩
  have hP : va_P D vwCl [oX5 a0 c_lanes c_positions c_room c_gap c_places c_picked a_lot a_pieces a_mark a_byDistance] H := by rw [hHe]; exact hP
  have hS : va_S (fun q => s.heap.size ≤ q) s.heap H [] := by rw [hHe]; exact hS
  refine W_heq hHe ?_
  unfold f_X5_distanceOf at hf
  refine lv_aload_n hx hb dX5_distanceOf_0 rfl (lv_at hl 0 rfl) ?_
  refine va_get (D := D) (ci := 4) (v := .int c_positions) (C := RX5) (T := TX5) (N := 10) hx hb hts (fun w h => mb (iX5 w h)) hown hK hP 0 rfl rfl 1 (by decide) (hts _ (mb tb_47)) (fun _ h9 => h9) rfl dX5_distanceOf_1 ?_
  refine lv_iconst (v := 1) hx hb dX5_distanceOf_4 (by decide) ?_
  refine lv_icmp_ge (tgt := 12) hx hb dX5_distanceOf_5 (by decide) (fun h1 => ?_) (fun h1 => ?_)
  · have hf := ipos h1 hf
    refine lv_aload_n hx hb dX5_distanceOf_12 rfl (lv_at hl 0 rfl) ?_
    refine va_get (D := D) (ci := 4) (v := .int c_gap) (C := RX5) (T := TX5) (N := 10) hx hb hts (fun w h => mb (iX5 w h)) hown hK hP 0 rfl rfl 3 (by decide) (hts _ (mb tb_51)) (fun _ h9 => h9) rfl dX5_distanceOf_13 ?_
    refine lv_iload_n hx hb dX5_distanceOf_16 rfl (lv_at hl 1 rfl) ?_
    refine lv_aload_n hx hb dX5_distanceOf_17 rfl (lv_at hl 0 rfl) ?_
    refine va_get (D := D) (ci := 4) (v := .int c_positions) (C := RX5) (T := TX5) (N := 10) hx hb hts (fun w h => mb (iX5 w h)) hown hK hP 0 rfl rfl 1 (by decide) (hts _ (mb tb_47)) (fun _ h9 => h9) rfl dX5_distanceOf_18 ?_
    obtain ⟨h2, hf⟩ := ob_z hf
    refine lv_idiv hx hb dX5_distanceOf_21 h2 ?_
    refine lv_imul hx hb dX5_distanceOf_22 ?_
    refine lv_iload_n hx hb dX5_distanceOf_23 rfl (lv_at hl 1 rfl) ?_
    refine lv_aload_n hx hb dX5_distanceOf_24 rfl (lv_at hl 0 rfl) ?_
    refine va_get (D := D) (ci := 4) (v := .int c_positions) (C := RX5) (T := TX5) (N := 10) hx hb hts (fun w h => mb (iX5 w h)) hown hK hP 0 rfl rfl 1 (by decide) (hts _ (mb tb_47)) (fun _ h9 => h9) rfl dX5_distanceOf_25 ?_
    obtain ⟨h3, hf⟩ := ob_z hf
    refine lv_irem hx hb dX5_distanceOf_28 h3 ?_
    refine lv_iadd hx hb dX5_distanceOf_29 ?_
    refine lv_iconst (v := 1) hx hb dX5_distanceOf_30 (by decide) ?_
    refine lv_iadd hx hb dX5_distanceOf_31 ?_
    cases hf
    exact W.iret hx hb hr (fun t ht hW => ⟨⟨_, (), rfl, rfl, (ht.trans hHe)⟩, hS.F ht⟩) hS.2.2 dX5_distanceOf_32
  · have hf := ineg h1 hf
    refine lv_iconst (v := 0) hx hb dX5_distanceOf_8 (by decide) ?_
    refine lv_goto (tgt := 32) hx hb dX5_distanceOf_9 (by decide) ?_
    cases hf
    exact W.iret hx hb hr (fun t ht hW => ⟨⟨_, (), rfl, rfl, (ht.trans hHe)⟩, hS.F ht⟩) hS.2.2 dX5_distanceOf_32
def f_X5_sortByDistance_L27_J65 (n1 : Int32) (n2 : Int32) (n3 : Int32) (n4 : Int32) (c_lanes : Int32) (c_positions : Int32) (c_gap : Int32) (c_places : Int32) (c_byDistance : Nat → Int32) : Option ((Int32 × Int32 × (Nat → Int32)) ⊕ (Int32 × (Nat → Int32))) :=
  some (.inl (n1, n4 + 1, c_byDistance))
def f_X5_sortByDistance_L27 (n2 : Int32) (n3 : Int32) (c_lanes : Int32) (c_positions : Int32) (c_gap : Int32) (c_places : Int32) (n1 : Int32) (n4 : Int32) (c_byDistance : Nat → Int32) : Option ((Int32 × Int32 × (Nat → Int32)) ⊕ (Int32 × (Nat → Int32))) :=
  (if c_places ≤ n4 then some (.inr (n1, c_byDistance))
  else (if c_places ≤ n1 then some (.inr (n1, c_byDistance))
  else bnd1 (f_X5_distanceOf n4 c_positions c_gap) (fun r4 =>
  ((if r4 = n3 then gd n1 48 (f_X5_sortByDistance_L27_J65 (n1 + 1) n2 n3 n4 c_lanes c_positions c_gap c_places (upd c_byDistance n1.toNatClampNeg n4))
  else f_X5_sortByDistance_L27_J65 n1 n2 n3 n4 c_lanes c_positions c_gap c_places c_byDistance)))))
def f_X5_sortByDistance_L19 (n2 : Int32) (c_lanes : Int32) (c_positions : Int32) (c_gap : Int32) (c_places : Int32) (n1 : Int32) (n3 : Int32) (c_byDistance : Nat → Int32) : Option ((Int32 × Int32 × (Nat → Int32)) ⊕ (Nat → Int32)) :=
  (if n2 < n3 then some (.inr c_byDistance)
  else (bnd2 (loop (fun z => f_X5_sortByDistance_L27 n2 n3 c_lanes c_positions c_gap c_places z.1 z.2.1 z.2.2) fu (n1, 0, c_byDistance)) fun m9 c10 =>
  some (.inl (m9, n3 + 1, c10))))
def f_X5_sortByDistance (c_lanes : Int32) (c_positions : Int32) (c_gap : Int32) (c_places : Int32) (c_byDistance : Nat → Int32) : Option ((Nat → Int32)) :=
  (bnd1 (loop (fun z => f_X5_sortByDistance_L19 ((c_gap * c_lanes) + c_positions) c_lanes c_positions c_gap c_places z.1 z.2.1 z.2.2) fu (0, 1, c_byDistance)) fun c12 =>
  some c12)
set_option maxHeartbeats 4000000 in
set_option maxRecDepth 100000 in
theorem k_X5_sortByDistance (l : Launch) (hl0 : l.stackTraces = false) (D : va_G) (cI cJ cZ cS : ClassId) (B0 : Nat) (sz : Nat) (a0 a_lot a_pieces a_mark a_byDistance : Nat) (c_lanes : Int32) (c_positions : Int32) (c_room : Int32) (c_gap : Int32) (c_places : Int32) (c_picked : Int64) (c_byDistance : Nat → Int32) (oc_byDistance : Nat → Int32)  (hf : f_X5_sortByDistance c_lanes c_positions c_gap c_places c_byDistance = some oc_byDistance) : Met l yX5_sortByDistance (wz yX5_sortByDistance cX5_sortByDistance 5 none) ({ frames := 1, cells := 0, slots := 0, locals := 21 }) (va_Pc [.ref a0] (wp D cI cJ cZ cS B0 [oX5 a0 c_lanes c_positions c_room c_gap c_places c_picked a_lot a_pieces a_mark a_byDistance, rI cI a_byDistance 48 c_byDistance] sz)) (va_Qv (fun (_ : Unit) => True) (fun _ t => va_P D vwCl [oX5 a0 c_lanes c_positions c_room c_gap c_places c_picked a_lot a_pieces a_mark a_byDistance, rI cI a_byDistance 48 oc_byDistance] t.heap) (va_A [oX5 a0 c_lanes c_positions c_room c_gap c_places c_picked a_lot a_pieces a_mark a_byDistance, rI cI a_byDistance 48 c_byDistance] sz)) 0 0 (va_A [oX5 a0 c_lanes c_positions c_room c_gap c_places c_picked a_lot a_pieces a_mark a_byDistance, rI cI a_byDistance 48 c_byDistance] sz) := by
  refine Met.ofW (cc := cX5_sortByDistance) (maxL := 5) (ret := none) (by decide) rfl ?_
  intro p e s m args below meth c s₁ B hml hv
  obtain ⟨rfl, hsz, hP, hK, hD0, hB0, hE⟩ := hv
  subst hsz
  have hx := B.exec
  have hb := B.bytes
  have hr := B.returns
  have hts := atoms_spec (ws := (wz yX5_sortByDistance cX5_sortByDistance 5 none)) B.pre
  have hown : s.vm.findClass RX5 = some m.cls := findClass_of_methodNamed B.named
  have hlocks := B.notSynchronized
  have hD := hD0.self (sz := s.heap.size)
  have hAB : ∀ q : Nat, va_A [oX5 a0 c_lanes c_positions c_room c_gap c_places c_picked a_lot a_pieces a_mark a_byDistance, rI cI a_byDistance 48 c_byDistance] s.heap.size q → B0 ≤ q := va_A_B hD0 hB0
  generalize hAe : va_A [oX5 a0 c_lanes c_positions c_room c_gap c_places c_picked a_lot a_pieces a_mark a_byDistance, rI cI a_byDistance 48 c_byDistance] s.heap.size = A at hD hAB ⊢
  have hA : ∀ q : Nat, s.heap.size ≤ q → A q := fun q h => by rw [← hAe]; exact Or.inr h
  have hFa := hA
  have hS : va_S A s.heap s.heap [] := va_S.rf
  have hBn := fun (H : Heap) (locs : List Loc) (h : va_S A s.heap H locs) => Nat.le_trans hB0 h.1
  have hEn := fun (H : Heap) (locs : List Loc) (h : va_S A s.heap H locs) => gE_now hE h hAB
  have hl := lv_entry ([.ref a0]) (n := 5) (Nat.le_of_ble_eq_true rfl)
  rw [lg_entry_eq]
  generalize (lg_sl ([.ref a0]) ++ List.replicate (5 - (lg_sl ([.ref a0])).length) Slot.unset).toArray = ls at hl ⊢
  have hl : lv_has ls 5 [(0, .ref a0)] := hl
  obtain ⟨H, hHe⟩ : ∃ H : Heap, H = s.heap := ⟨_, rfl⟩
  have hP : va_P D vwCl [oX5 a0 c_lanes c_positions c_room c_gap c_places c_picked a_lot a_pieces a_mark a_byDistance, rI cI a_byDistance 48 c_byDistance] H := by rw [hHe]; exact hP
  have hS : va_S A s.heap H [] := by rw [hHe]; exact hS
  refine W_heq hHe ?_
  unfold f_X5_sortByDistance at hf
  refine gen_goW (fun WW hWW => ?_)
  have hL19 : ∀ (n : Nat) (n2 : Int32) (n1 : Int32) (n3 : Int32) (c_byDistance : Nat → Int32) (e_c_byDistance : Nat → Int32), loop (fun z => f_X5_sortByDistance_L19 n2 c_lanes c_positions c_gap c_places z.1 z.2.1 z.2.2) n (n1, n3, c_byDistance) = some e_c_byDistance → (∀ (H : Heap) (locs : List Loc) (ls : Array Slot), va_P D vwCl [oX5 a0 c_lanes c_positions c_room c_gap c_places c_picked a_lot a_pieces a_mark a_byDistance, rI cI a_byDistance 48 e_c_byDistance] H → va_D A [oX5 a0 c_lanes c_positions c_room c_gap c_places c_picked a_lot a_pieces a_mark a_byDistance, rI cI a_byDistance 48 e_c_byDistance] → va_S A s.heap H locs → lv_has ls 5 [] → WW H locs 0 0 (F0 m 77 ls [])) → ∀ (H : Heap) (locs : List Loc) (ls : Array Slot), va_P D vwCl [oX5 a0 c_lanes c_positions c_room c_gap c_places c_picked a_lot a_pieces a_mark a_byDistance, rI cI a_byDistance 48 c_byDistance] H → va_D A [oX5 a0 c_lanes c_positions c_room c_gap c_places c_picked a_lot a_pieces a_mark a_byDistance, rI cI a_byDistance 48 c_byDistance] → va_S A s.heap H locs → lv_has ls 5 [(0, .ref a0), (1, .int n1), (2, .int n2), (3, .int n3)] → WW H locs 0 0 (F0 m 19 ls []) := by
    intro n
    induction n with
    | zero =>
      intro n2 n1 n3 c_byDistance e_c_byDistance hlp
      exact absurd hlp (by simp [loop])
    | succ n ih =>
      intro n2 n1 n3 c_byDistance e_c_byDistance hlp K H locs ls hP hD hS hl
      obtain ⟨x9, hf, hlp⟩ := loop_s hlp
      have hf : f_X5_sortByDistance_L19 n2 c_lanes c_positions c_gap c_places n1 n3 c_byDistance = some x9 := hf
      unfold f_X5_sortByDistance_L19 at hf
      have hL27 : ∀ (n : Nat) (n2 : Int32) (n3 : Int32) (n1 : Int32) (n4 : Int32) (c_byDistance : Nat → Int32) (e1 : Int32) (e_c_byDistance : Nat → Int32), loop (fun z => f_X5_sortByDistance_L27 n2 n3 c_lanes c_positions c_gap c_places z.1 z.2.1 z.2.2) n (n1, n4, c_byDistance) = some (e1, e_c_byDistance) → (∀ (H : Heap) (locs : List Loc) (ls : Array Slot), va_P D vwCl [oX5 a0 c_lanes c_positions c_room c_gap c_places c_picked a_lot a_pieces a_mark a_byDistance, rI cI a_byDistance 48 e_c_byDistance] H → va_D A [oX5 a0 c_lanes c_positions c_room c_gap c_places c_picked a_lot a_pieces a_mark a_byDistance, rI cI a_byDistance 48 e_c_byDistance] → va_S A s.heap H locs → lv_has ls 5 [(0, .ref a0), (1, .int e1), (2, .int n2), (3, .int n3)] → WW H locs 0 0 (F0 m 71 ls [])) → ∀ (H : Heap) (locs : List Loc) (ls : Array Slot), va_P D vwCl [oX5 a0 c_lanes c_positions c_room c_gap c_places c_picked a_lot a_pieces a_mark a_byDistance, rI cI a_byDistance 48 c_byDistance] H → va_D A [oX5 a0 c_lanes c_positions c_room c_gap c_places c_picked a_lot a_pieces a_mark a_byDistance, rI cI a_byDistance 48 c_byDistance] → va_S A s.heap H locs → lv_has ls 5 [(0, .ref a0), (1, .int n1), (2, .int n2), (3, .int n3), (4, .int n4)] → WW H locs 0 0 (F0 m 27 ls []) := by
        intro n
        induction n with
        | zero =>
          intro n2 n3 n1 n4 c_byDistance e1 e_c_byDistance hlp
          exact absurd hlp (by simp [loop])
        | succ n ih =>
          intro n2 n3 n1 n4 c_byDistance e1 e_c_byDistance hlp K H locs ls hP hD hS hl
          obtain ⟨x9, hf, hlp⟩ := loop_s hlp
          have hf : f_X5_sortByDistance_L27 n2 n3 c_lanes c_positions c_gap c_places n1 n4 c_byDistance = some x9 := hf
          unfold f_X5_sortByDistance_L27 at hf
          have hJ65 : ∀ (n1 : Int32) (n4 : Int32) (c_byDistance : Nat → Int32), f_X5_sortByDistance_L27_J65 n1 n2 n3 n4 c_lanes c_positions c_gap c_places c_byDistance = some x9 → ∀ (H : Heap) (locs : List Loc) (ls : Array Slot), va_P D vwCl [oX5 a0 c_lanes c_positions c_room c_gap c_places c_picked a_lot a_pieces a_mark a_byDistance, rI cI a_byDistance 48 c_byDistance] H → va_D A [oX5 a0 c_lanes c_positions c_room c_gap c_places c_picked a_lot a_pieces a_mark a_byDistance, rI cI a_byDistance 48 c_byDistance] → va_S A s.heap H locs → lv_has ls 5 [(0, .ref a0), (1, .int n1), (2, .int n2), (3, .int n3), (4, .int n4)] → WW H locs 0 0 (F0 m 65 ls []) := by
            intro n1 n4 c_byDistance hf H locs ls hP hD hS hl
            unfold f_X5_sortByDistance_L27_J65 at hf
            refine (hWW _ _ _ _ _).mpr ?_
            refine lv_iinc (v := (n4 + 1)) (lv' := [(4, .int (n4 + 1)), (0, .ref a0), (1, .int n1), (2, .int n2), (3, .int n3)]) hx hb dX5_sortByDistance_65 hl (k := 4) rfl rfl (by decide) rfl (fun ls hl => ?_)
            refine lv_goto (tgt := 27) hx hb dX5_sortByDistance_68 (by decide) ?_
            obtain rfl := Option.some.inj hf
            exact (hWW _ _ _ _ _).mp (ih _ _ _ _ _ _ _ hlp K _ _ ls hP hD hS (lv_sub hl [1, 2, 3, 4, 0] rfl))
          refine (hWW _ _ _ _ _).mpr ?_
          refine lv_iload hx hb dX5_sortByDistance_27 (lv_at hl 4 rfl) ?_
          refine lv_aload_n hx hb dX5_sortByDistance_29 rfl (lv_at hl 0 rfl) ?_
          refine va_get (D := D) (ci := 4) (v := .int c_places) (C := RX5) (T := TX5) (N := 10) hx hb hts (fun w h => mb (iX5 w h)) hown hK hP 0 rfl rfl 4 (by decide) (hts _ (mb tb_53)) (fun _ h9 => h9) rfl dX5_sortByDistance_30 ?_
          refine lv_icmp_ge (tgt := 71) hx hb dX5_sortByDistance_33 (by decide) (fun h2 => ?_) (fun h2 => ?_)
          · have hf := ipos h2 hf
            obtain rfl := Option.some.inj hf
            cases lpx_r hlp
            exact (hWW _ _ _ _ _).mp (K _ _ ls hP hD hS (lv_sub hl [0, 1, 2, 3] rfl))
          · have hf := ineg h2 hf
            refine lv_iload_n hx hb dX5_sortByDistance_36 rfl (lv_at hl 1 rfl) ?_
            refine lv_aload_n hx hb dX5_sortByDistance_37 rfl (lv_at hl 0 rfl) ?_
            refine va_get (D := D) (ci := 4) (v := .int c_places) (C := RX5) (T := TX5) (N := 10) hx hb hts (fun w h => mb (iX5 w h)) hown hK hP 0 rfl rfl 4 (by decide) (hts _ (mb tb_53)) (fun _ h9 => h9) rfl dX5_sortByDistance_38 ?_
            refine lv_icmp_ge (tgt := 71) hx hb dX5_sortByDistance_41 (by decide) (fun h3 => ?_) (fun h3 => ?_)
            · have hf := ipos h3 hf
              obtain rfl := Option.some.inj hf
              cases lpx_r hlp
              exact (hWW _ _ _ _ _).mp (K _ _ ls hP hD hS (lv_sub hl [0, 1, 2, 3] rfl))
            · have hf := ineg h3 hf
              refine lv_aload_n hx hb dX5_sortByDistance_44 rfl (lv_at hl 0 rfl) ?_
              refine lv_iload hx hb dX5_sortByDistance_45 (lv_at hl 4 rfl) ?_
              obtain ⟨r4, hc5, hf⟩ := ob1 hf
              refine ro_calli (r := r4) (va_runV (As := [.int n4]) (rest := []) ⟨hx, hb, hml, hown, hts⟩ (k_X5_distanceOf l hl0 D cI cJ cZ cS B0 H a0 a_lot a_pieces a_mark a_byDistance c_lanes c_positions c_room c_gap c_places c_picked n4 r4 hc5) (cwV 1 hts (gV tb_271 tb_272 tb_273 tb_3 tb_274) rfl rfl rfl (by decide +kernel) ⟨Nat.le_of_ble_eq_true rfl, Nat.le_of_ble_eq_true rfl⟩) ⟨rp_blind, va_recv hK hP (ci := 4) (q0 := 0) rfl rfl, rp_pre (hP.sub [0] rfl) hK (hBn _ _ hS) (hEn _ _ hS)⟩ rfl rfl hl.1 rfl (lv_room (Nat.le_of_ble_eq_true rfl)) dX5_sortByDistance_47 ⟨Nat.le_of_ble_eq_true rfl, Nat.le_of_ble_eq_true rfl⟩) ?_
              refine lv_iload_n hx hb dX5_sortByDistance_50 rfl (lv_at hl 3 rfl) ?_
              refine lv_icmp_ne (tgt := 65) hx hb dX5_sortByDistance_51 (by decide) (fun h6 => ?_) (fun h6 => ?_)
              · have hf := ineg h6 hf
                exact (hWW _ _ _ _ _).mp (hJ65 _ _ _ hf _ _ ls hP hD hS (lv_sub hl [0, 1, 2, 3, 4] rfl))
              · have hf := ipos h6 hf
                refine lv_aload_n hx hb dX5_sortByDistance_54 rfl (lv_at hl 0 rfl) ?_
                refine va_get (D := D) (ci := 4) (v := .ref a_byDistance) (C := RX5) (T := TX5) (N := 10) hx hb hts (fun w h => mb (iX5 w h)) hown hK hP 0 rfl rfl 9 (by decide) (hts _ (mb tb_63)) (fun _ h9 => h9) rfl dX5_sortByDistance_55 ?_
                refine lv_iload_n hx hb dX5_sortByDistance_58 rfl (lv_at hl 1 rfl) ?_
                refine lv_iload hx hb dX5_sortByDistance_59 (lv_at hl 4 rfl) ?_
                obtain ⟨h7, hf⟩ := ob_d hf
                refine va_iast hx hb hK hP hD hS 1 0 rfl rfl h7 dX5_sortByDistance_61 (fun H locs hP hD hS => ?_)
                have hP : va_P D vwCl [oX5 a0 c_lanes c_positions c_room c_gap c_places c_picked a_lot a_pieces a_mark a_byDistance, rI cI a_byDistance 48 (upd c_byDistance n1.toNatClampNeg n4)] H := hP
                have hD : va_D A [oX5 a0 c_lanes c_positions c_room c_gap c_places c_picked a_lot a_pieces a_mark a_byDistance, rI cI a_byDistance 48 (upd c_byDistance n1.toNatClampNeg n4)] := hD
                refine lv_iinc (v := (n1 + 1)) (lv' := [(1, .int (n1 + 1)), (0, .ref a0), (2, .int n2), (3, .int n3), (4, .int n4)]) hx hb dX5_sortByDistance_62 hl (k := 1) rfl rfl (by decide) rfl (fun ls hl => ?_)
                exact (hWW _ _ _ _ _).mp (hJ65 _ _ _ hf _ _ ls hP hD hS (lv_sub hl [1, 0, 2, 3, 4] rfl))
      refine (hWW _ _ _ _ _).mpr ?_
      refine lv_iload_n hx hb dX5_sortByDistance_19 rfl (lv_at hl 3 rfl) ?_
      refine lv_iload_n hx hb dX5_sortByDistance_20 rfl (lv_at hl 2 rfl) ?_
      refine lv_icmp_gt (tgt := 77) hx hb dX5_sortByDistance_21 (by decide) (fun h1 => ?_) (fun h1 => ?_)
      · have hf := ipos h1 hf
        obtain rfl := Option.some.inj hf
        cases lpx_r hlp
        exact (hWW _ _ _ _ _).mp (K _ _ ls hP hD hS (lv_sub hl [] rfl))
      · have hf := ineg h1 hf
        refine lv_iconst (v := 0) hx hb dX5_sortByDistance_24 (by decide) ?_
        refine lv_istore (lv' := [(4, .int 0), (0, .ref a0), (1, .int n1), (2, .int n2), (3, .int n3)]) hx hb dX5_sortByDistance_25 hl (by decide) rfl (fun ls hl => ?_)
        obtain ⟨m9, c10, hc8, hf⟩ := ob2 hf
        refine (hWW _ _ _ _ _).mp (hL27 fu _ _ _ _ _ _ _ hc8 (fun H locs ls hP hD hS hl => ?_) _ _ ls hP hD hS (lv_sub hl [1, 2, 3, 4, 0] rfl))
        · refine (hWW _ _ _ _ _).mpr ?_
          refine lv_iinc (v := (n3 + 1)) (lv' := [(3, .int (n3 + 1)), (0, .ref a0), (1, .int m9), (2, .int n2)]) hx hb dX5_sortByDistance_71 hl (k := 3) rfl rfl (by decide) rfl (fun ls hl => ?_)
          refine lv_goto (tgt := 19) hx hb dX5_sortByDistance_74 (by decide) ?_
          obtain rfl := Option.some.inj hf
          exact (hWW _ _ _ _ _).mp (ih _ _ _ _ _ hlp K _ _ ls hP hD hS (lv_sub hl [1, 2, 3, 0] rfl))
  refine (hWW _ _ _ _ _).mpr ?_
  refine lv_iconst (v := 0) hx hb dX5_sortByDistance_0 (by decide) ?_
  refine lv_istore_n (lv' := [(1, .int 0), (0, .ref a0)]) hx hb dX5_sortByDistance_1 rfl hl (by decide) rfl (fun ls hl => ?_)
  refine lv_aload_n hx hb dX5_sortByDistance_2 rfl (lv_at hl 1 rfl) ?_
  refine va_get (D := D) (ci := 4) (v := .int c_gap) (C := RX5) (T := TX5) (N := 10) hx hb hts (fun w h => mb (iX5 w h)) hown hK hP 0 rfl rfl 3 (by decide) (hts _ (mb tb_51)) (fun _ h9 => h9) rfl dX5_sortByDistance_3 ?_
  refine lv_aload_n hx hb dX5_sortByDistance_6 rfl (lv_at hl 1 rfl) ?_
  refine va_get (D := D) (ci := 4) (v := .int c_lanes) (C := RX5) (T := TX5) (N := 10) hx hb hts (fun w h => mb (iX5 w h)) hown hK hP 0 rfl rfl 0 (by decide) (hts _ (mb tb_45)) (fun _ h9 => h9) rfl dX5_sortByDistance_7 ?_
  refine lv_imul hx hb dX5_sortByDistance_10 ?_
  refine lv_aload_n hx hb dX5_sortByDistance_11 rfl (lv_at hl 1 rfl) ?_
  refine va_get (D := D) (ci := 4) (v := .int c_positions) (C := RX5) (T := TX5) (N := 10) hx hb hts (fun w h => mb (iX5 w h)) hown hK hP 0 rfl rfl 1 (by decide) (hts _ (mb tb_47)) (fun _ h9 => h9) rfl dX5_sortByDistance_12 ?_
  refine lv_iadd hx hb dX5_sortByDistance_15 ?_
  refine lv_istore_n (lv' := [(2, .int ((c_gap * c_lanes) + c_positions)), (1, .int 0), (0, .ref a0)]) hx hb dX5_sortByDistance_16 rfl hl (by decide) rfl (fun ls hl => ?_)
  refine lv_iconst (v := 1) hx hb dX5_sortByDistance_17 (by decide) ?_
  refine lv_istore_n (lv' := [(3, .int 1), (2, .int ((c_gap * c_lanes) + c_positions)), (1, .int 0), (0, .ref a0)]) hx hb dX5_sortByDistance_18 rfl hl (by decide) rfl (fun ls hl => ?_)
  obtain ⟨c12, hc11, hf⟩ := ob1 hf
  refine (hWW _ _ _ _ _).mp (hL19 fu _ _ _ _ _ hc11 (fun H locs ls hP hD hS hl => ?_) _ _ ls hP hD hS (lv_sub hl [3, 2, 1, 0] rfl))
  · refine (hWW _ _ _ _ _).mpr ?_
    cases hf
    refine W.widen (k := 0) (n := 0) (Nat.le_of_ble_eq_true rfl) (Nat.le_of_ble_eq_true rfl) ?_
    exact W.vret hx hb hr (fun t ht hW => ⟨⟨(), rfl, trivial, (by show va_P D vwCl _ t.heap; rw [ht]; exact hP)⟩, hS.F ht⟩) hS.2.2 dX5_sortByDistance_77
def f_X5_build_L47 (c_lanes : Int32) (c_positions : Int32) (c_room : Int32) (c_gap : Int32) (c_places : Int32) (c_picked : Int64) (c_byDistance : Nat → Int32) (n5 : Int32) (c_lot : Nat → Int32) (c_pieces : Nat → Int32) (c_mark : Nat → Int32) : Option ((Int32 × (Nat → Int32) × (Nat → Int32) × (Nat → Int32)) ⊕ ((Nat → Int32) × (Nat → Int32) × (Nat → Int32))) :=
  (if c_places ≤ n5 then some (.inr (c_lot, c_pieces, c_mark))
  else bnd3 (f_X5_set n5 (-1) 0 0 c_places c_lot c_pieces c_mark) (fun o4 o5 o6 =>
  (some (.inl (n5 + 1, o4, o5, o6)))))
def f_X5_build (v1 : Int32) (v2 : Int32) (v3 : Int32) (v4 : Int32) (c_lanes : Int32) (c_positions : Int32) (c_room : Int32) (c_gap : Int32) (c_places : Int32) (c_picked : Int64) (c_lot : Nat → Int32) (c_pieces : Nat → Int32) (c_mark : Nat → Int32) (c_byDistance : Nat → Int32) : Option (Int32 × Int32 × Int32 × Int32 × Int32 × Int64 × (Nat → Int32) × (Nat → Int32) × (Nat → Int32) × (Nat → Int32)) :=
  (bnd3 (loop (fun z => f_X5_build_L47 v1 v2 v3 v4 (if 48 < (v1 * v2) then 48 else (v1 * v2)) 0 c_byDistance z.1 z.2.1 z.2.2.1 z.2.2.2) fu (0, c_lot, c_pieces, c_mark)) fun c8 c9 c10 =>
  bnd1 (f_X5_sortByDistance v1 v2 v4 (if 48 < (v1 * v2) then 48 else (v1 * v2)) c_byDistance) (fun o13 =>
  (some (v1, v2, v3, v4, (if 48 < (v1 * v2) then 48 else (v1 * v2)), 0, c8, c9, c10, o13))))
set_option maxHeartbeats 4000000 in
set_option maxRecDepth 100000 in
theorem k_X5_build (l : Launch) (hl0 : l.stackTraces = false) (D : va_G) (cI cJ cZ cS : ClassId) (B0 : Nat) (sz : Nat) (a0 a_lot a_pieces a_mark a_byDistance : Nat) (c_lanes : Int32) (c_positions : Int32) (c_room : Int32) (c_gap : Int32) (c_places : Int32) (c_picked : Int64) (c_lot : Nat → Int32) (c_pieces : Nat → Int32) (c_mark : Nat → Int32) (c_byDistance : Nat → Int32) (v1 : Int32) (v2 : Int32) (v3 : Int32) (v4 : Int32) (oc_lanes : Int32) (oc_positions : Int32) (oc_room : Int32) (oc_gap : Int32) (oc_places : Int32) (oc_picked : Int64) (oc_lot : Nat → Int32) (oc_pieces : Nat → Int32) (oc_mark : Nat → Int32) (oc_byDistance : Nat → Int32)  (hf : f_X5_build v1 v2 v3 v4 c_lanes c_positions c_room c_gap c_places c_picked c_lot c_pieces c_mark c_byDistance = some (oc_lanes, oc_positions, oc_room, oc_gap, oc_places, oc_picked, oc_lot, oc_pieces, oc_mark, oc_byDistance)) : Met l yX5_build (wz yX5_build cX5_build 6 none) ({ frames := 2, cells := 0, slots := 0, locals := 45 }) (va_Pc [.ref a0, .int v1, .int v2, .int v3, .int v4] (wp D cI cJ cZ cS B0 [oX5 a0 c_lanes c_positions c_room c_gap c_places c_picked a_lot a_pieces a_mark a_byDistance, rI cI a_lot 48 c_lot, rI cI a_pieces 48 c_pieces, rI cI a_mark 48 c_mark, rI cI a_byDistance 48 c_byDistance] sz)) (va_Qv (fun (_ : Unit) => True) (fun _ t => va_P D vwCl [oX5 a0 oc_lanes oc_positions oc_room oc_gap oc_places oc_picked a_lot a_pieces a_mark a_byDistance, rI cI a_lot 48 oc_lot, rI cI a_pieces 48 oc_pieces, rI cI a_mark 48 oc_mark, rI cI a_byDistance 48 oc_byDistance] t.heap) (va_A [oX5 a0 c_lanes c_positions c_room c_gap c_places c_picked a_lot a_pieces a_mark a_byDistance, rI cI a_lot 48 c_lot, rI cI a_pieces 48 c_pieces, rI cI a_mark 48 c_mark, rI cI a_byDistance 48 c_byDistance] sz)) 0 0 (va_A [oX5 a0 c_lanes c_positions c_room c_gap c_places c_picked a_lot a_pieces a_mark a_byDistance, rI cI a_lot 48 c_lot, rI cI a_pieces 48 c_pieces, rI cI a_mark 48 c_mark, rI cI a_byDistance 48 c_byDistance] sz) := by
  refine Met.ofW (cc := cX5_build) (maxL := 6) (ret := none) (by decide) rfl ?_
  intro p e s m args below meth c s₁ B hml hv
  obtain ⟨rfl, hsz, hP, hK, hD0, hB0, hE⟩ := hv
  subst hsz
  have hx := B.exec
  have hb := B.bytes
  have hr := B.returns
  have hts := atoms_spec (ws := (wz yX5_build cX5_build 6 none)) B.pre
  have hown : s.vm.findClass RX5 = some m.cls := findClass_of_methodNamed B.named
  have hlocks := B.notSynchronized
  have hD := hD0.self (sz := s.heap.size)
  have hAB : ∀ q : Nat, va_A [oX5 a0 c_lanes c_positions c_room c_gap c_places c_picked a_lot a_pieces a_mark a_byDistance, rI cI a_lot 48 c_lot, rI cI a_pieces 48 c_pieces, rI cI a_mark 48 c_mark, rI cI a_byDistance 48 c_byDistance] s.heap.size q → B0 ≤ q := va_A_B hD0 hB0
  generalize hAe : va_A [oX5 a0 c_lanes c_positions c_room c_gap c_places c_picked a_lot a_pieces a_mark a_byDistance, rI cI a_lot 48 c_lot, rI cI a_pieces 48 c_pieces, rI cI a_mark 48 c_mark, rI cI a_byDistance 48 c_byDistance] s.heap.size = A at hD hAB ⊢
  have hA : ∀ q : Nat, s.heap.size ≤ q → A q := fun q h => by rw [← hAe]; exact Or.inr h
  have hFa := hA
  have hS : va_S A s.heap s.heap [] := va_S.rf
  have hBn := fun (H : Heap) (locs : List Loc) (h : va_S A s.heap H locs) => Nat.le_trans hB0 h.1
  have hEn := fun (H : Heap) (locs : List Loc) (h : va_S A s.heap H locs) => gE_now hE h hAB
  have hl := lv_entry ([.ref a0, .int v1, .int v2, .int v3, .int v4]) (n := 6) (Nat.le_of_ble_eq_true rfl)
  rw [lg_entry_eq]
  generalize (lg_sl ([.ref a0, .int v1, .int v2, .int v3, .int v4]) ++ List.replicate (6 - (lg_sl ([.ref a0, .int v1, .int v2, .int v3, .int v4])).length) Slot.unset).toArray = ls at hl ⊢
  have hl : lv_has ls 6 [(0, .ref a0), (1, .int v1), (2, .int v2), (3, .int v3), (4, .int v4)] := hl
  obtain ⟨H, hHe⟩ : ∃ H : Heap, H = s.heap := ⟨_, rfl⟩
  have hP : va_P D vwCl [oX5 a0 c_lanes c_positions c_room c_gap c_places c_picked a_lot a_pieces a_mark a_byDistance, rI cI a_lot 48 c_lot, rI cI a_pieces 48 c_pieces, rI cI a_mark 48 c_mark, rI cI a_byDistance 48 c_byDistance] H := by rw [hHe]; exact hP
  have hS : va_S A s.heap H [] := by rw [hHe]; exact hS
  refine W_heq hHe ?_
  unfold f_X5_build at hf
  refine gen_goW (fun WW hWW => ?_)
  have hL47 : ∀ (n : Nat) (c_lanes : Int32) (c_positions : Int32) (c_room : Int32) (c_gap : Int32) (c_places : Int32) (c_picked : Int64) (c_byDistance : Nat → Int32) (n5 : Int32) (c_lot : Nat → Int32) (c_pieces : Nat → Int32) (c_mark : Nat → Int32) (e_c_lot : Nat → Int32) (e_c_pieces : Nat → Int32) (e_c_mark : Nat → Int32), loop (fun z => f_X5_build_L47 c_lanes c_positions c_room c_gap c_places c_picked c_byDistance z.1 z.2.1 z.2.2.1 z.2.2.2) n (n5, c_lot, c_pieces, c_mark) = some (e_c_lot, e_c_pieces, e_c_mark) → (∀ (H : Heap) (locs : List Loc) (ls : Array Slot), va_P D vwCl [oX5 a0 c_lanes c_positions c_room c_gap c_places c_picked a_lot a_pieces a_mark a_byDistance, rI cI a_lot 48 e_c_lot, rI cI a_pieces 48 e_c_pieces, rI cI a_mark 48 e_c_mark, rI cI a_byDistance 48 c_byDistance] H → va_D A [oX5 a0 c_lanes c_positions c_room c_gap c_places c_picked a_lot a_pieces a_mark a_byDistance, rI cI a_lot 48 e_c_lot, rI cI a_pieces 48 e_c_pieces, rI cI a_mark 48 e_c_mark, rI cI a_byDistance 48 c_byDistance] → va_S A s.heap H locs → lv_has ls 6 [(0, .ref a0)] → WW H locs 0 0 (F0 m 71 ls [])) → ∀ (H : Heap) (locs : List Loc) (ls : Array Slot), va_P D vwCl [oX5 a0 c_lanes c_positions c_room c_gap c_places c_picked a_lot a_pieces a_mark a_byDistance, rI cI a_lot 48 c_lot, rI cI a_pieces 48 c_pieces, rI cI a_mark 48 c_mark, rI cI a_byDistance 48 c_byDistance] H → va_D A [oX5 a0 c_lanes c_positions c_room c_gap c_places c_picked a_lot a_pieces a_mark a_byDistance, rI cI a_lot 48 c_lot, rI cI a_pieces 48 c_pieces, rI cI a_mark 48 c_mark, rI cI a_byDistance 48 c_byDistance] → va_S A s.heap H locs → lv_has ls 6 [(0, .ref a0), (5, .int n5)] → WW H locs 0 0 (F0 m 47 ls []) := by
    intro n
    induction n with
    | zero =>
      intro c_lanes c_positions c_room c_gap c_places c_picked c_byDistance n5 c_lot c_pieces c_mark e_c_lot e_c_pieces e_c_mark hlp
      exact absurd hlp (by simp [loop])
    | succ n ih =>
      intro c_lanes c_positions c_room c_gap c_places c_picked c_byDistance n5 c_lot c_pieces c_mark e_c_lot e_c_pieces e_c_mark hlp K H locs ls hP hD hS hl
      obtain ⟨x9, hf, hlp⟩ := loop_s hlp
      have hf : f_X5_build_L47 c_lanes c_positions c_room c_gap c_places c_picked c_byDistance n5 c_lot c_pieces c_mark = some x9 := hf
      unfold f_X5_build_L47 at hf
      refine (hWW _ _ _ _ _).mpr ?_
      refine lv_iload hx hb dX5_build_47 (lv_at hl 1 rfl) ?_
      refine lv_aload_n hx hb dX5_build_49 rfl (lv_at hl 0 rfl) ?_
      refine va_get (D := D) (ci := 4) (v := .int c_places) (C := RX5) (T := TX5) (N := 10) hx hb hts (fun w h => mb (iX5 w h)) hown hK hP 0 rfl rfl 4 (by decide) (hts _ (mb tb_53)) (fun _ h9 => h9) rfl dX5_build_50 ?_
      refine lv_icmp_ge (tgt := 71) hx hb dX5_build_53 (by decide) (fun h1 => ?_) (fun h1 => ?_)
      · have hf := ipos h1 hf
        obtain rfl := Option.some.inj hf
        cases lpx_r hlp
        exact (hWW _ _ _ _ _).mp (K _ _ ls hP hD hS (lv_sub hl [0] rfl))
      · have hf := ineg h1 hf
        refine lv_aload_n hx hb dX5_build_56 rfl (lv_at hl 0 rfl) ?_
        refine lv_iload hx hb dX5_build_57 (lv_at hl 1 rfl) ?_
        refine lv_iconst (v := (-1)) hx hb dX5_build_59 (by decide) ?_
        refine lv_iconst (v := 0) hx hb dX5_build_60 (by decide) ?_
        refine lv_iconst (v := 0) hx hb dX5_build_61 (by decide) ?_
        obtain ⟨o4, o5, o6, hc3, hf⟩ := ob3 hf
        refine rw_callv (va_runV (As := [.int n5, .int (-1), .int 0, .int 0]) (rest := []) ⟨hx, hb, hml, hown, hts⟩ (k_X5_set l hl0 D cI cJ cZ cS B0 H.size a0 a_lot a_pieces a_mark a_byDistance c_lanes c_positions c_room c_gap c_places c_picked c_lot c_pieces c_mark n5 (-1) 0 0 o4 o5 o6 hc3) (cwV 4 hts (gV tb_259 tb_260 tb_261 tb_3 tb_262) rfl rfl rfl (by decide +kernel) ⟨Nat.le_of_ble_eq_true rfl, Nat.le_of_ble_eq_true rfl⟩) ⟨wp_blind, va_recv hK hP (ci := 4) (q0 := 0) rfl rfl, wp_pre (hP.sub [0, 1, 2, 3] rfl) hK (va_D.sub (hD.weaken (fun _ _ _ h9 => hAB _ h9)) [0, 1, 2, 3] rfl rfl) (hBn _ _ hS) (hEn _ _ hS)⟩ rfl rfl hl.1 rfl (lv_room (Nat.le_of_ble_eq_true rfl)) dX5_build_62 ⟨Nat.le_of_ble_eq_true rfl, Nat.le_of_ble_eq_true rfl⟩) hP hD hS hA [oX5 a0 c_lanes c_positions c_room c_gap c_places c_picked a_lot a_pieces a_mark a_byDistance, rI cI a_lot 48 o4, rI cI a_pieces 48 o5, rI cI a_mark 48 o6, rI cI a_byDistance 48 c_byDistance] 5 [0, 1, 2, 3] [4] rfl rfl rfl rfl (by decide +kernel) rfl (fun H locs hP hD hS => ?_)
        refine lv_iinc (v := (n5 + 1)) (lv' := [(5, .int (n5 + 1)), (0, .ref a0)]) hx hb dX5_build_65 hl (k := 1) rfl rfl (by decide) rfl (fun ls hl => ?_)
        refine lv_goto (tgt := 47) hx hb dX5_build_68 (by decide) ?_
        obtain rfl := Option.some.inj hf
        exact (hWW _ _ _ _ _).mp (ih _ _ _ _ _ _ _ _ _ _ _ _ _ _ hlp K _ _ ls hP hD hS (lv_sub hl [1, 0] rfl))
  refine (hWW _ _ _ _ _).mpr ?_
  refine lv_aload_n hx hb dX5_build_0 rfl (lv_at hl 0 rfl) ?_
  refine lv_iload_n hx hb dX5_build_1 rfl (lv_at hl 1 rfl) ?_
  refine va_put (D := D) (ci := 4) (v := .int v1) (ty := .int) (C := RX5) (T := TX5) (N := 10) hx hb hts (fun w h => mb (iX5 w h)) tyX5 tyX5_ok nmX5 hown hK hP hD hS 0 rfl rfl 0 (by decide) (hts _ (mb tb_45)) (fun _ h9 => h9) rfl (by decide +kernel) rfl rfl (Nat.le_of_ble_eq_true rfl) dX5_build_2 (fun H locs hP hD hS => ?_)
  have hP : va_P D vwCl [oX5 a0 v1 c_positions c_room c_gap c_places c_picked a_lot a_pieces a_mark a_byDistance, rI cI a_lot 48 c_lot, rI cI a_pieces 48 c_pieces, rI cI a_mark 48 c_mark, rI cI a_byDistance 48 c_byDistance] H := hP
  have hD : va_D A [oX5 a0 v1 c_positions c_room c_gap c_places c_picked a_lot a_pieces a_mark a_byDistance, rI cI a_lot 48 c_lot, rI cI a_pieces 48 c_pieces, rI cI a_mark 48 c_mark, rI cI a_byDistance 48 c_byDistance] := hD
  refine lv_aload_n hx hb dX5_build_5 rfl (lv_at hl 0 rfl) ?_
  refine lv_iload_n hx hb dX5_build_6 rfl (lv_at hl 2 rfl) ?_
  refine va_put (D := D) (ci := 4) (v := .int v2) (ty := .int) (C := RX5) (T := TX5) (N := 10) hx hb hts (fun w h => mb (iX5 w h)) tyX5 tyX5_ok nmX5 hown hK hP hD hS 0 rfl rfl 1 (by decide) (hts _ (mb tb_47)) (fun _ h9 => h9) rfl (by decide +kernel) rfl rfl (Nat.le_of_ble_eq_true rfl) dX5_build_7 (fun H locs hP hD hS => ?_)
  have hP : va_P D vwCl [oX5 a0 v1 v2 c_room c_gap c_places c_picked a_lot a_pieces a_mark a_byDistance, rI cI a_lot 48 c_lot, rI cI a_pieces 48 c_pieces, rI cI a_mark 48 c_mark, rI cI a_byDistance 48 c_byDistance] H := hP
  have hD : va_D A [oX5 a0 v1 v2 c_room c_gap c_places c_picked a_lot a_pieces a_mark a_byDistance, rI cI a_lot 48 c_lot, rI cI a_pieces 48 c_pieces, rI cI a_mark 48 c_mark, rI cI a_byDistance 48 c_byDistance] := hD
  refine lv_aload_n hx hb dX5_build_10 rfl (lv_at hl 0 rfl) ?_
  refine lv_iload_n hx hb dX5_build_11 rfl (lv_at hl 3 rfl) ?_
  refine va_put (D := D) (ci := 4) (v := .int v3) (ty := .int) (C := RX5) (T := TX5) (N := 10) hx hb hts (fun w h => mb (iX5 w h)) tyX5 tyX5_ok nmX5 hown hK hP hD hS 0 rfl rfl 2 (by decide) (hts _ (mb tb_49)) (fun _ h9 => h9) rfl (by decide +kernel) rfl rfl (Nat.le_of_ble_eq_true rfl) dX5_build_12 (fun H locs hP hD hS => ?_)
  have hP : va_P D vwCl [oX5 a0 v1 v2 v3 c_gap c_places c_picked a_lot a_pieces a_mark a_byDistance, rI cI a_lot 48 c_lot, rI cI a_pieces 48 c_pieces, rI cI a_mark 48 c_mark, rI cI a_byDistance 48 c_byDistance] H := hP
  have hD : va_D A [oX5 a0 v1 v2 v3 c_gap c_places c_picked a_lot a_pieces a_mark a_byDistance, rI cI a_lot 48 c_lot, rI cI a_pieces 48 c_pieces, rI cI a_mark 48 c_mark, rI cI a_byDistance 48 c_byDistance] := hD
  refine lv_aload_n hx hb dX5_build_15 rfl (lv_at hl 0 rfl) ?_
  refine lv_iload hx hb dX5_build_16 (lv_at hl 4 rfl) ?_
  refine va_put (D := D) (ci := 4) (v := .int v4) (ty := .int) (C := RX5) (T := TX5) (N := 10) hx hb hts (fun w h => mb (iX5 w h)) tyX5 tyX5_ok nmX5 hown hK hP hD hS 0 rfl rfl 3 (by decide) (hts _ (mb tb_51)) (fun _ h9 => h9) rfl (by decide +kernel) rfl rfl (Nat.le_of_ble_eq_true rfl) dX5_build_18 (fun H locs hP hD hS => ?_)
  have hP : va_P D vwCl [oX5 a0 v1 v2 v3 v4 c_places c_picked a_lot a_pieces a_mark a_byDistance, rI cI a_lot 48 c_lot, rI cI a_pieces 48 c_pieces, rI cI a_mark 48 c_mark, rI cI a_byDistance 48 c_byDistance] H := hP
  have hD : va_D A [oX5 a0 v1 v2 v3 v4 c_places c_picked a_lot a_pieces a_mark a_byDistance, rI cI a_lot 48 c_lot, rI cI a_pieces 48 c_pieces, rI cI a_mark 48 c_mark, rI cI a_byDistance 48 c_byDistance] := hD
  refine lv_aload_n hx hb dX5_build_21 rfl (lv_at hl 0 rfl) ?_
  refine lv_aload_n hx hb dX5_build_22 rfl (lv_at hl 0 rfl) ?_
  refine va_get (D := D) (ci := 4) (v := .int v1) (C := RX5) (T := TX5) (N := 10) hx hb hts (fun w h => mb (iX5 w h)) hown hK hP 0 rfl rfl 0 (by decide) (hts _ (mb tb_45)) (fun _ h9 => h9) rfl dX5_build_23 ?_
  refine lv_aload_n hx hb dX5_build_26 rfl (lv_at hl 0 rfl) ?_
  refine va_get (D := D) (ci := 4) (v := .int v2) (C := RX5) (T := TX5) (N := 10) hx hb hts (fun w h => mb (iX5 w h)) hown hK hP 0 rfl rfl 1 (by decide) (hts _ (mb tb_47)) (fun _ h9 => h9) rfl dX5_build_27 ?_
  refine lv_imul hx hb dX5_build_30 ?_
  refine lv_bipush (v := 48) hx hb dX5_build_31 (by decide) ?_
  refine va_mmin hx hb (hml.trans hl.1.symm) hown (hts _ (mb tb_256)) (hts _ (mb tb_257)) (hts _ (mb tb_8)) (hts _ (mb wm_min)) (Nat.le_of_ble_eq_true rfl) (Nat.le_of_ble_eq_true rfl) (Nat.zero_le _) (Nat.zero_le _) dX5_build_33 ?_
  refine va_put (D := D) (ci := 4) (v := .int (if 48 < (v1 * v2) then 48 else (v1 * v2))) (ty := .int) (C := RX5) (T := TX5) (N := 10) hx hb hts (fun w h => mb (iX5 w h)) tyX5 tyX5_ok nmX5 hown hK hP hD hS 0 rfl rfl 4 (by decide) (hts _ (mb tb_53)) (fun _ h9 => h9) rfl (by decide +kernel) rfl rfl (Nat.le_of_ble_eq_true rfl) dX5_build_36 (fun H locs hP hD hS => ?_)
  have hP : va_P D vwCl [oX5 a0 v1 v2 v3 v4 (if 48 < (v1 * v2) then 48 else (v1 * v2)) c_picked a_lot a_pieces a_mark a_byDistance, rI cI a_lot 48 c_lot, rI cI a_pieces 48 c_pieces, rI cI a_mark 48 c_mark, rI cI a_byDistance 48 c_byDistance] H := hP
  have hD : va_D A [oX5 a0 v1 v2 v3 v4 (if 48 < (v1 * v2) then 48 else (v1 * v2)) c_picked a_lot a_pieces a_mark a_byDistance, rI cI a_lot 48 c_lot, rI cI a_pieces 48 c_pieces, rI cI a_mark 48 c_mark, rI cI a_byDistance 48 c_byDistance] := hD
  refine lv_aload_n hx hb dX5_build_39 rfl (lv_at hl 0 rfl) ?_
  refine lv_lconst (v := 0) hx hb dX5_build_40 (by decide) ?_
  refine va_put (D := D) (ci := 4) (v := .long 0) (ty := .long) (C := RX5) (T := TX5) (N := 10) hx hb hts (fun w h => mb (iX5 w h)) tyX5 tyX5_ok nmX5 hown hK hP hD hS 0 rfl rfl 5 (by decide) (hts _ (mb tb_55)) (fun _ h9 => h9) rfl (by decide +kernel) rfl rfl (Nat.le_of_ble_eq_true rfl) dX5_build_41 (fun H locs hP hD hS => ?_)
  have hP : va_P D vwCl [oX5 a0 v1 v2 v3 v4 (if 48 < (v1 * v2) then 48 else (v1 * v2)) 0 a_lot a_pieces a_mark a_byDistance, rI cI a_lot 48 c_lot, rI cI a_pieces 48 c_pieces, rI cI a_mark 48 c_mark, rI cI a_byDistance 48 c_byDistance] H := hP
  have hD : va_D A [oX5 a0 v1 v2 v3 v4 (if 48 < (v1 * v2) then 48 else (v1 * v2)) 0 a_lot a_pieces a_mark a_byDistance, rI cI a_lot 48 c_lot, rI cI a_pieces 48 c_pieces, rI cI a_mark 48 c_mark, rI cI a_byDistance 48 c_byDistance] := hD
  refine lv_iconst (v := 0) hx hb dX5_build_44 (by decide) ?_
  refine lv_istore (lv' := [(5, .int 0), (0, .ref a0), (1, .int v1), (2, .int v2), (3, .int v3), (4, .int v4)]) hx hb dX5_build_45 hl (by decide) rfl (fun ls hl => ?_)
  obtain ⟨c8, c9, c10, hc7, hf⟩ := ob3 hf
  refine (hWW _ _ _ _ _).mp (hL47 fu _ _ _ _ _ _ _ _ _ _ _ _ _ _ hc7 (fun H locs ls hP hD hS hl => ?_) _ _ ls hP hD hS (lv_sub hl [1, 0] rfl))
  · refine (hWW _ _ _ _ _).mpr ?_
    refine lv_aload_n hx hb dX5_build_71 rfl (lv_at hl 0 rfl) ?_
    obtain ⟨o13, hc12, hf⟩ := ob1 hf
    refine rw_callv (va_runV (As := []) (rest := []) ⟨hx, hb, hml, hown, hts⟩ (k_X5_sortByDistance l hl0 D cI cJ cZ cS B0 H.size a0 a_lot a_pieces a_mark a_byDistance v1 v2 v3 v4 (if 48 < (v1 * v2) then 48 else (v1 * v2)) 0 c_byDistance o13 hc12) (cwV 0 hts (gV tb_267 tb_269 ts_0 tb_3 tb_270) rfl rfl rfl (by decide +kernel) ⟨Nat.le_of_ble_eq_true rfl, Nat.le_of_ble_eq_true rfl⟩) ⟨wp_blind, va_recv hK hP (ci := 4) (q0 := 0) rfl rfl, wp_pre (hP.sub [0, 4] rfl) hK (va_D.sub (hD.weaken (fun _ _ _ h9 => hAB _ h9)) [0, 4] rfl rfl) (hBn _ _ hS) (hEn _ _ hS)⟩ rfl rfl hl.1 rfl (lv_room (Nat.le_of_ble_eq_true rfl)) dX5_build_72 ⟨Nat.le_of_ble_eq_true rfl, Nat.le_of_ble_eq_true rfl⟩) hP hD hS hA [oX5 a0 v1 v2 v3 v4 (if 48 < (v1 * v2) then 48 else (v1 * v2)) 0 a_lot a_pieces a_mark a_byDistance, rI cI a_lot 48 c8, rI cI a_pieces 48 c9, rI cI a_mark 48 c10, rI cI a_byDistance 48 o13] 5 [0, 4] [1, 2, 3] rfl rfl rfl rfl (by decide +kernel) rfl (fun H locs hP hD hS => ?_)
    cases hf
    refine W.widen (k := 0) (n := 0) (Nat.le_of_ble_eq_true rfl) (Nat.le_of_ble_eq_true rfl) ?_
    exact W.vret hx hb hr (fun t ht hW => ⟨⟨(), rfl, trivial, (by show va_P D vwCl _ t.heap; rw [ht]; exact hP)⟩, hS.F ht⟩) hS.2.2 dX5_build_75
def f_X5_isFree (v1 : Int32) (c_places : Int32) (c_pieces : Nat → Int32) : Option (Int32) :=
  bnd1 (f_X5_exists v1 c_places) (fun r1 =>
  ((if r1 = 0 then some 0
  else gd v1 48 ((if (c_pieces v1.toNatClampNeg) = 0 then some 1
  else some 0)))))
set_option maxHeartbeats 4000000 in
set_option maxRecDepth 100000 in
theorem k_X5_isFree (l : Launch) (hl0 : l.stackTraces = false) (D : va_G) (cI cJ cZ cS : ClassId) (B0 : Nat) (H0 : Heap) (a0 a_lot a_pieces a_mark a_byDistance : Nat) (c_lanes : Int32) (c_positions : Int32) (c_room : Int32) (c_gap : Int32) (c_places : Int32) (c_picked : Int64) (c_pieces : Nat → Int32) (v1 : Int32) (r9 : Int32)  (hf : f_X5_isFree v1 c_places c_pieces = some r9) : Met l yX5_isFree (wz yX5_isFree cX5_isFree 2 (some .boolean)) ({ frames := 1, cells := 0, slots := 0, locals := 21 }) (va_Pc [.ref a0, .int v1] (rp D cI cJ cZ cS B0 [oX5 a0 c_lanes c_positions c_room c_gap c_places c_picked a_lot a_pieces a_mark a_byDistance, rI cI a_pieces 48 c_pieces] H0)) (va_Qi (fun (r2 : Int32) (_ : Unit) => r2 = r9) (fun _ t => t.heap = H0) (fun q => H0.size ≤ q)) 0 0 (fun q => H0.size ≤ q) := by
  refine Met.ofW (cc := cX5_isFree) (maxL := 2) (ret := (some .boolean)) (by decide) rfl ?_
  intro p e s m args below meth c s₁ B hml hv
  obtain ⟨rfl, hH, hP, hK, hB0, hE⟩ := hv
  subst hH
  have hx := B.exec
  have hb := B.bytes
  have hr := B.returns
  have hts := atoms_spec (ws := (wz yX5_isFree cX5_isFree 2 (some .boolean))) B.pre
  have hown : s.vm.findClass RX5 = some m.cls := findClass_of_methodNamed B.named
  have hlocks := B.notSynchronized
  have hAB : ∀ q : Nat, s.heap.size ≤ q → B0 ≤ q := fun q h => Nat.le_trans hB0 h
  have hA : ∀ q : Nat, s.heap.size ≤ q → s.heap.size ≤ q := fun _ h => h
  have hS : va_S (fun q => s.heap.size ≤ q) s.heap s.heap [] := va_S.rf
  have hBn := fun (H : Heap) (locs : List Loc) (h : va_S (fun q => s.heap.size ≤ q) s.heap H locs) => Nat.le_trans hB0 h.1
  have hEn := fun (H : Heap) (locs : List Loc) (h : va_S (fun q => s.heap.size ≤ q) s.heap H locs) => gE_now hE h hAB
  have hl := lv_entry ([.ref a0, .int v1]) (n := 2) (Nat.le_of_ble_eq_true rfl)
  rw [lg_entry_eq]
  generalize (lg_sl ([.ref a0, .int v1]) ++ List.replicate (2 - (lg_sl ([.ref a0, .int v1])).length) Slot.unset).toArray = ls at hl ⊢
  have hl : lv_has ls 2 [(0, .ref a0), (1, .int v1)] := hl
  obtain ⟨H, hHe⟩ : ∃ H : Heap, H = s.heap := ⟨_, rfl⟩
  have hP : va_P D vwCl [oX5 a0 c_lanes c_positions c_room c_gap c_places c_picked a_lot a_pieces a_mark a_byDistance, rI cI a_pieces 48 c_pieces] H := by rw [hHe]; exact hP
  have hS : va_S (fun q => s.heap.size ≤ q) s.heap H [] := by rw [hHe]; exact hS
  refine W_heq hHe ?_
  unfold f_X5_isFree at hf
  refine lv_aload_n hx hb dX5_isFree_0 rfl (lv_at hl 0 rfl) ?_
  refine lv_iload_n hx hb dX5_isFree_1 rfl (lv_at hl 1 rfl) ?_
  obtain ⟨r1, hc2, hf⟩ := ob1 hf
  refine ro_calli (r := r1) (va_runV (As := [.int v1]) (rest := []) ⟨hx, hb, hml, hown, hts⟩ (k_X5_exists l hl0 D cI cJ cZ cS B0 H a0 a_lot a_pieces a_mark a_byDistance c_lanes c_positions c_room c_gap c_places c_picked v1 r1 hc2) (cwV 1 hts (gV tb_263 tb_264 tb_265 tb_3 tb_266) rfl rfl rfl (by decide +kernel) ⟨Nat.le_of_ble_eq_true rfl, Nat.le_of_ble_eq_true rfl⟩) ⟨rp_blind, va_recv hK hP (ci := 4) (q0 := 0) rfl rfl, rp_pre (hP.sub [0] rfl) hK (hBn _ _ hS) (hEn _ _ hS)⟩ rfl rfl hl.1 rfl (lv_room (Nat.le_of_ble_eq_true rfl)) dX5_isFree_2 ⟨Nat.le_of_ble_eq_true rfl, Nat.le_of_ble_eq_true rfl⟩) ?_
  refine lv_if_eq (tgt := 21) hx hb dX5_isFree_5 (by decide) (fun h3 => ?_) (fun h3 => ?_)
  · have hf := ipos h3 hf
    refine lv_iconst (v := 0) hx hb dX5_isFree_21 (by decide) ?_
    cases hf
    exact W.zret hx hb hr rfl (fun t ht hW => ⟨⟨_, (), rfl, rfl, (ht.trans hHe)⟩, hS.F ht⟩) hS.2.2 dX5_isFree_22
  · have hf := ineg h3 hf
    refine lv_aload_n hx hb dX5_isFree_8 rfl (lv_at hl 0 rfl) ?_
    refine va_get (D := D) (ci := 4) (v := .ref a_pieces) (C := RX5) (T := TX5) (N := 10) hx hb hts (fun w h => mb (iX5 w h)) hown hK hP 0 rfl rfl 7 (by decide) (hts _ (mb tb_59)) (fun _ h9 => h9) rfl dX5_isFree_9 ?_
    refine lv_iload_n hx hb dX5_isFree_12 rfl (lv_at hl 1 rfl) ?_
    obtain ⟨h4, hf⟩ := ob_d hf
    refine va_iald hx hb hK hP 1 0 rfl rfl h4 dX5_isFree_13 ?_
    refine lv_if_ne (tgt := 21) hx hb dX5_isFree_14 (by decide) (fun h5 => ?_) (fun h5 => ?_)
    · have hf := ineg h5 hf
      refine lv_iconst (v := 0) hx hb dX5_isFree_21 (by decide) ?_
      cases hf
      exact W.zret hx hb hr rfl (fun t ht hW => ⟨⟨_, (), rfl, rfl, (ht.trans hHe)⟩, hS.F ht⟩) hS.2.2 dX5_isFree_22
    · have hf := ipos h5 hf
      refine lv_iconst (v := 1) hx hb dX5_isFree_17 (by decide) ?_
      refine lv_goto (tgt := 22) hx hb dX5_isFree_18 (by decide) ?_
      cases hf
      exact W.zret hx hb hr rfl (fun t ht hW => ⟨⟨_, (), rfl, rfl, (ht.trans hHe)⟩, hS.F ht⟩) hS.2.2 dX5_isFree_22
def f_X5_isWith (v1 : Int32) (v2 : Int32) (c_places : Int32) (c_lot : Nat → Int32) (c_pieces : Nat → Int32) : Option (Int32) :=
  bnd1 (f_X5_exists v1 c_places) (fun r1 =>
  ((if r1 = 0 then some 0
  else gd v1 48 ((if (c_pieces v1.toNatClampNeg) ≤ 0 then some 0
  else gd v1 48 ((if (c_lot v1.toNatClampNeg) = v2 then some 1
  else some 0)))))))
set_option maxHeartbeats 4000000 in
set_option maxRecDepth 100000 in
theorem k_X5_isWith (l : Launch) (hl0 : l.stackTraces = false) (D : va_G) (cI cJ cZ cS : ClassId) (B0 : Nat) (H0 : Heap) (a0 a_lot a_pieces a_mark a_byDistance : Nat) (c_lanes : Int32) (c_positions : Int32) (c_room : Int32) (c_gap : Int32) (c_places : Int32) (c_picked : Int64) (c_lot : Nat → Int32) (c_pieces : Nat → Int32) (v1 : Int32) (v2 : Int32) (r9 : Int32)  (hf : f_X5_isWith v1 v2 c_places c_lot c_pieces = some r9) : Met l yX5_isWith (wz yX5_isWith cX5_isWith 3 (some .boolean)) ({ frames := 1, cells := 0, slots := 0, locals := 21 }) (va_Pc [.ref a0, .int v1, .int v2] (rp D cI cJ cZ cS B0 [oX5 a0 c_lanes c_positions c_room c_gap c_places c_picked a_lot a_pieces a_mark a_byDistance, rI cI a_lot 48 c_lot, rI cI a_pieces 48 c_pieces] H0)) (va_Qi (fun (r2 : Int32) (_ : Unit) => r2 = r9) (fun _ t => t.heap = H0) (fun q => H0.size ≤ q)) 0 0 (fun q => H0.size ≤ q) := by
  refine Met.ofW (cc := cX5_isWith) (maxL := 3) (ret := (some .boolean)) (by decide) rfl ?_
  intro p e s m args below meth c s₁ B hml hv
  obtain ⟨rfl, hH, hP, hK, hB0, hE⟩ := hv
  subst hH
  have hx := B.exec
  have hb := B.bytes
  have hr := B.returns
  have hts := atoms_spec (ws := (wz yX5_isWith cX5_isWith 3 (some .boolean))) B.pre
  have hown : s.vm.findClass RX5 = some m.cls := findClass_of_methodNamed B.named
  have hlocks := B.notSynchronized
  have hAB : ∀ q : Nat, s.heap.size ≤ q → B0 ≤ q := fun q h => Nat.le_trans hB0 h
  have hA : ∀ q : Nat, s.heap.size ≤ q → s.heap.size ≤ q := fun _ h => h
  have hS : va_S (fun q => s.heap.size ≤ q) s.heap s.heap [] := va_S.rf
  have hBn := fun (H : Heap) (locs : List Loc) (h : va_S (fun q => s.heap.size ≤ q) s.heap H locs) => Nat.le_trans hB0 h.1
  have hEn := fun (H : Heap) (locs : List Loc) (h : va_S (fun q => s.heap.size ≤ q) s.heap H locs) => gE_now hE h hAB
  have hl := lv_entry ([.ref a0, .int v1, .int v2]) (n := 3) (Nat.le_of_ble_eq_true rfl)
  rw [lg_entry_eq]
  generalize (lg_sl ([.ref a0, .int v1, .int v2]) ++ List.replicate (3 - (lg_sl ([.ref a0, .int v1, .int v2])).length) Slot.unset).toArray = ls at hl ⊢
  have hl : lv_has ls 3 [(0, .ref a0), (1, .int v1), (2, .int v2)] := hl
  obtain ⟨H, hHe⟩ : ∃ H : Heap, H = s.heap := ⟨_, rfl⟩
  have hP : va_P D vwCl [oX5 a0 c_lanes c_positions c_room c_gap c_places c_picked a_lot a_pieces a_mark a_byDistance, rI cI a_lot 48 c_lot, rI cI a_pieces 48 c_pieces] H := by rw [hHe]; exact hP
  have hS : va_S (fun q => s.heap.size ≤ q) s.heap H [] := by rw [hHe]; exact hS
  refine W_heq hHe ?_
  unfold f_X5_isWith at hf
  refine lv_aload_n hx hb dX5_isWith_0 rfl (lv_at hl 0 rfl) ?_
  refine lv_iload_n hx hb dX5_isWith_1 rfl (lv_at hl 1 rfl) ?_
  obtain ⟨r1, hc2, hf⟩ := ob1 hf
  refine ro_calli (r := r1) (va_runV (As := [.int v1]) (rest := []) ⟨hx, hb, hml, hown, hts⟩ (k_X5_exists l hl0 D cI cJ cZ cS B0 H a0 a_lot a_pieces a_mark a_byDistance c_lanes c_positions c_room c_gap c_places c_picked v1 r1 hc2) (cwV 1 hts (gV tb_263 tb_264 tb_265 tb_3 tb_266) rfl rfl rfl (by decide +kernel) ⟨Nat.le_of_ble_eq_true rfl, Nat.le_of_ble_eq_true rfl⟩) ⟨rp_blind, va_recv hK hP (ci := 4) (q0 := 0) rfl rfl, rp_pre (hP.sub [0] rfl) hK (hBn _ _ hS) (hEn _ _ hS)⟩ rfl rfl hl.1 rfl (lv_room (Nat.le_of_ble_eq_true rfl)) dX5_isWith_2 ⟨Nat.le_of_ble_eq_true rfl, Nat.le_of_ble_eq_true rfl⟩) ?_
  refine lv_if_eq (tgt := 31) hx hb dX5_isWith_5 (by decide) (fun h3 => ?_) (fun h3 => ?_)
  · have hf := ipos h3 hf
    refine lv_iconst (v := 0) hx hb dX5_isWith_31 (by decide) ?_
    cases hf
    exact W.zret hx hb hr rfl (fun t ht hW => ⟨⟨_, (), rfl, rfl, (ht.trans hHe)⟩, hS.F ht⟩) hS.2.2 dX5_isWith_32
  · have hf := ineg h3 hf
    refine lv_aload_n hx hb dX5_isWith_8 rfl (lv_at hl 0 rfl) ?_
    refine va_get (D := D) (ci := 4) (v := .ref a_pieces) (C := RX5) (T := TX5) (N := 10) hx hb hts (fun w h => mb (iX5 w h)) hown hK hP 0 rfl rfl 7 (by decide) (hts _ (mb tb_59)) (fun _ h9 => h9) rfl dX5_isWith_9 ?_
    refine lv_iload_n hx hb dX5_isWith_12 rfl (lv_at hl 1 rfl) ?_
    obtain ⟨h4, hf⟩ := ob_d hf
    refine va_iald hx hb hK hP 2 0 rfl rfl h4 dX5_isWith_13 ?_
    refine lv_if_le (tgt := 31) hx hb dX5_isWith_14 (by decide) (fun h5 => ?_) (fun h5 => ?_)
    · have hf := ipos h5 hf
      refine lv_iconst (v := 0) hx hb dX5_isWith_31 (by decide) ?_
      cases hf
      exact W.zret hx hb hr rfl (fun t ht hW => ⟨⟨_, (), rfl, rfl, (ht.trans hHe)⟩, hS.F ht⟩) hS.2.2 dX5_isWith_32
    · have hf := ineg h5 hf
      refine lv_aload_n hx hb dX5_isWith_17 rfl (lv_at hl 0 rfl) ?_
      refine va_get (D := D) (ci := 4) (v := .ref a_lot) (C := RX5) (T := TX5) (N := 10) hx hb hts (fun w h => mb (iX5 w h)) hown hK hP 0 rfl rfl 6 (by decide) (hts _ (mb tb_57)) (fun _ h9 => h9) rfl dX5_isWith_18 ?_
      refine lv_iload_n hx hb dX5_isWith_21 rfl (lv_at hl 1 rfl) ?_
      obtain ⟨h6, hf⟩ := ob_d hf
      refine va_iald hx hb hK hP 1 0 rfl rfl h6 dX5_isWith_22 ?_
      refine lv_iload_n hx hb dX5_isWith_23 rfl (lv_at hl 2 rfl) ?_
      refine lv_icmp_ne (tgt := 31) hx hb dX5_isWith_24 (by decide) (fun h7 => ?_) (fun h7 => ?_)
      · have hf := ineg h7 hf
        refine lv_iconst (v := 0) hx hb dX5_isWith_31 (by decide) ?_
        cases hf
        exact W.zret hx hb hr rfl (fun t ht hW => ⟨⟨_, (), rfl, rfl, (ht.trans hHe)⟩, hS.F ht⟩) hS.2.2 dX5_isWith_32
      · have hf := ipos h7 hf
        refine lv_iconst (v := 1) hx hb dX5_isWith_27 (by decide) ?_
        refine lv_goto (tgt := 32) hx hb dX5_isWith_28 (by decide) ?_
        cases hf
        exact W.zret hx hb hr rfl (fun t ht hW => ⟨⟨_, (), rfl, rfl, (ht.trans hHe)⟩, hS.F ht⟩) hS.2.2 dX5_isWith_32
def f_X5_isPicked (v1 : Int32) (v2 : Int32) (c_positions : Int32) (c_picked : Int64) : Option (Int32) :=
  (if (lg_cmp (c_picked &&& ((1 : Int64) <<< ((((v1 * c_positions) + v2) - 1).toInt64 &&& 63))) 0) = 0 then some 0
  else some 1)
set_option maxHeartbeats 4000000 in
set_option maxRecDepth 100000 in
theorem k_X5_isPicked (l : Launch) (hl0 : l.stackTraces = false) (D : va_G) (cI cJ cZ cS : ClassId) (B0 : Nat) (H0 : Heap) (a0 a_lot a_pieces a_mark a_byDistance : Nat) (c_lanes : Int32) (c_positions : Int32) (c_room : Int32) (c_gap : Int32) (c_places : Int32) (c_picked : Int64) (v1 : Int32) (v2 : Int32) (r9 : Int32)  (hf : f_X5_isPicked v1 v2 c_positions c_picked = some r9) : Met l yX5_isPicked (wz yX5_isPicked cX5_isPicked 3 (some .boolean)) ({ frames := 0, cells := 0, slots := 0, locals := 0 }) (va_Pc [.ref a0, .int v1, .int v2] (rp D cI cJ cZ cS B0 [oX5 a0 c_lanes c_positions c_room c_gap c_places c_picked a_lot a_pieces a_mark a_byDistance] H0)) (va_Qi (fun (r2 : Int32) (_ : Unit) => r2 = r9) (fun _ t => t.heap = H0) (fun q => H0.size ≤ q)) 0 0 (fun q => H0.size ≤ q) := by
  refine Met.ofW (cc := cX5_isPicked) (maxL := 3) (ret := (some .boolean)) (by decide) rfl ?_
  intro p e s m args below meth c s₁ B hml hv
  obtain ⟨rfl, hH, hP, hK, hB0, hE⟩ := hv
  subst hH
  have hx := B.exec
  have hb := B.bytes
  have hr := B.returns
  have hts := atoms_spec (ws := (wz yX5_isPicked cX5_isPicked 3 (some .boolean))) B.pre
  have hown : s.vm.findClass RX5 = some m.cls := findClass_of_methodNamed B.named
  have hlocks := B.notSynchronized
  have hAB : ∀ q : Nat, s.heap.size ≤ q → B0 ≤ q := fun q h => Nat.le_trans hB0 h
  have hA : ∀ q : Nat, s.heap.size ≤ q → s.heap.size ≤ q := fun _ h => h
  have hS : va_S (fun q => s.heap.size ≤ q) s.heap s.heap [] := va_S.rf
  have hBn := fun (H : Heap) (locs : List Loc) (h : va_S (fun q => s.heap.size ≤ q) s.heap H locs) => Nat.le_trans hB0 h.1
  have hEn := fun (H : Heap) (locs : List Loc) (h : va_S (fun q => s.heap.size ≤ q) s.heap H locs) => gE_now hE h hAB
  have hl := lv_entry ([.ref a0, .int v1, .int v2]) (n := 3) (Nat.le_of_ble_eq_true rfl)
  rw [lg_entry_eq]
  generalize (lg_sl ([.ref a0, .int v1, .int v2]) ++ List.replicate (3 - (lg_sl ([.ref a0, .int v1, .int v2])).length) Slot.unset).toArray = ls at hl ⊢
  have hl : lv_has ls 3 [(0, .ref a0), (1, .int v1), (2, .int v2)] := hl
  obtain ⟨H, hHe⟩ : ∃ H : Heap, H = s.heap := ⟨_, rfl⟩
  have hP : va_P D vwCl [oX5 a0 c_lanes c_positions c_room c_gap c_places c_picked a_lot a_pieces a_mark a_byDistance] H := by rw [hHe]; exact hP
  have hS : va_S (fun q => s.heap.size ≤ q) s.heap H [] := by rw [hHe]; exact hS
  refine W_heq hHe ?_
  unfold f_X5_isPicked at hf
  refine lv_aload_n hx hb dX5_isPicked_0 rfl (lv_at hl 0 rfl) ?_
  refine va_get (D := D) (ci := 4) (v := .long c_picked) (C := RX5) (T := TX5) (N := 10) hx hb hts (fun w h => mb (iX5 w h)) hown hK hP 0 rfl rfl 5 (by decide) (hts _ (mb tb_55)) (fun _ h9 => h9) rfl dX5_isPicked_1 ?_
  refine lv_lconst (v := 1) hx hb dX5_isPicked_4 (by decide) ?_
  refine lv_iload_n hx hb dX5_isPicked_5 rfl (lv_at hl 1 rfl) ?_
  refine lv_aload_n hx hb dX5_isPicked_6 rfl (lv_at hl 0 rfl) ?_
  refine va_get (D := D) (ci := 4) (v := .int c_positions) (C := RX5) (T := TX5) (N := 10) hx hb hts (fun w h => mb (iX5 w h)) hown hK hP 0 rfl rfl 1 (by decide) (hts _ (mb tb_47)) (fun _ h9 => h9) rfl dX5_isPicked_7 ?_
  refine lv_imul hx hb dX5_isPicked_10 ?_
  refine lv_iload_n hx hb dX5_isPicked_11 rfl (lv_at hl 2 rfl) ?_
  refine lv_iadd hx hb dX5_isPicked_12 ?_
  refine lv_iconst (v := 1) hx hb dX5_isPicked_13 (by decide) ?_
  refine lv_isub hx hb dX5_isPicked_14 ?_
  refine lv_lshl hx hb dX5_isPicked_15 rfl ?_
  refine lv_land hx hb dX5_isPicked_16 ?_
  refine lv_lconst (v := 0) hx hb dX5_isPicked_17 (by decide) ?_
  refine W.lcmp hx hb dX5_isPicked_18 ?_
  refine lv_if_eq (tgt := 26) hx hb dX5_isPicked_19 (by decide) (fun h1 => ?_) (fun h1 => ?_)
  · have hf := ipos h1 hf
    refine lv_iconst (v := 0) hx hb dX5_isPicked_26 (by decide) ?_
    cases hf
    exact W.zret hx hb hr rfl (fun t ht hW => ⟨⟨_, (), rfl, rfl, (ht.trans hHe)⟩, hS.F ht⟩) hS.2.2 dX5_isPicked_27
  · have hf := ineg h1 hf
    refine lv_iconst (v := 1) hx hb dX5_isPicked_22 (by decide) ?_
    refine lv_goto (tgt := 27) hx hb dX5_isPicked_23 (by decide) ?_
    cases hf
    exact W.zret hx hb hr rfl (fun t ht hW => ⟨⟨_, (), rfl, rfl, (ht.trans hHe)⟩, hS.F ht⟩) hS.2.2 dX5_isPicked_27
def f_X5_freePlaces_L4_J23 (n1 : Int32) (n2 : Int32) (c_places : Int32) (c_pieces : Nat → Int32) : Option ((Int32 × Int32) ⊕ Int32) :=
  some (.inl (n1, n2 + 1))
def f_X5_freePlaces_L4 (c_places : Int32) (c_pieces : Nat → Int32) (n1 : Int32) (n2 : Int32) : Option ((Int32 × Int32) ⊕ Int32) :=
  (if c_places ≤ n2 then some (.inr n1)
  else bnd1 (f_X5_isFree n2 c_places c_pieces) (fun r2 =>
  ((if r2 = 0 then f_X5_freePlaces_L4_J23 n1 n2 c_places c_pieces
  else f_X5_freePlaces_L4_J23 (n1 + 1) n2 c_places c_pieces))))
def f_X5_freePlaces (c_places : Int32) (c_pieces : Nat → Int32) : Option (Int32) :=
  (bnd1 (loop (fun z => f_X5_freePlaces_L4 c_places c_pieces z.1 z.2) fu (0, 0)) fun m6 =>
  some m6)
set_option maxHeartbeats 4000000 in
set_option maxRecDepth 100000 in
theorem k_X5_freePlaces (l : Launch) (hl0 : l.stackTraces = false) (D : va_G) (cI cJ cZ cS : ClassId) (B0 : Nat) (H0 : Heap) (a0 a_lot a_pieces a_mark a_byDistance : Nat) (c_lanes : Int32) (c_positions : Int32) (c_room : Int32) (c_gap : Int32) (c_places : Int32) (c_picked : Int64) (c_pieces : Nat → Int32) (r9 : Int32)  (hf : f_X5_freePlaces c_places c_pieces = some r9) : Met l yX5_freePlaces (wz yX5_freePlaces cX5_freePlaces 3 (some .int)) ({ frames := 2, cells := 0, slots := 0, locals := 42 }) (va_Pc [.ref a0] (rp D cI cJ cZ cS B0 [oX5 a0 c_lanes c_positions c_room c_gap c_places c_picked a_lot a_pieces a_mark a_byDistance, rI cI a_pieces 48 c_pieces] H0)) (va_Qi (fun (r2 : Int32) (_ : Unit) => r2 = r9) (fun _ t => t.heap = H0) (fun q => H0.size ≤ q)) 0 0 (fun q => H0.size ≤ q) := by
  refine Met.ofW (cc := cX5_freePlaces) (maxL := 3) (ret := (some .int)) (by decide) rfl ?_
  intro p e s m args below meth c s₁ B hml hv
  obtain ⟨rfl, hH, hP, hK, hB0, hE⟩ := hv
  subst hH
  have hx := B.exec
  have hb := B.bytes
  have hr := B.returns
  have hts := atoms_spec (ws := (wz yX5_freePlaces cX5_freePlaces 3 (some .int))) B.pre
  have hown : s.vm.findClass RX5 = some m.cls := findClass_of_methodNamed B.named
  have hlocks := B.notSynchronized
  have hAB : ∀ q : Nat, s.heap.size ≤ q → B0 ≤ q := fun q h => Nat.le_trans hB0 h
  have hA : ∀ q : Nat, s.heap.size ≤ q → s.heap.size ≤ q := fun _ h => h
  have hS : va_S (fun q => s.heap.size ≤ q) s.heap s.heap [] := va_S.rf
  have hBn := fun (H : Heap) (locs : List Loc) (h : va_S (fun q => s.heap.size ≤ q) s.heap H locs) => Nat.le_trans hB0 h.1
  have hEn := fun (H : Heap) (locs : List Loc) (h : va_S (fun q => s.heap.size ≤ q) s.heap H locs) => gE_now hE h hAB
  have hl := lv_entry ([.ref a0]) (n := 3) (Nat.le_of_ble_eq_true rfl)
  rw [lg_entry_eq]
  generalize (lg_sl ([.ref a0]) ++ List.replicate (3 - (lg_sl ([.ref a0])).length) Slot.unset).toArray = ls at hl ⊢
  have hl : lv_has ls 3 [(0, .ref a0)] := hl
  obtain ⟨H, hHe⟩ : ∃ H : Heap, H = s.heap := ⟨_, rfl⟩
  have hP : va_P D vwCl [oX5 a0 c_lanes c_positions c_room c_gap c_places c_picked a_lot a_pieces a_mark a_byDistance, rI cI a_pieces 48 c_pieces] H := by rw [hHe]; exact hP
  have hS : va_S (fun q => s.heap.size ≤ q) s.heap H [] := by rw [hHe]; exact hS
  refine W_heq hHe ?_
  unfold f_X5_freePlaces at hf
  refine gen_go (fun WW hWW => ?_)
  have hL4 : ∀ (n : Nat) (n1 : Int32) (n2 : Int32) (e1 : Int32), loop (fun z => f_X5_freePlaces_L4 c_places c_pieces z.1 z.2) n (n1, n2) = some e1 → (∀ (ls : Array Slot), lv_has ls 3 [(1, .int e1)] → WW (F0 m 29 ls [])) → ∀ (ls : Array Slot), lv_has ls 3 [(0, .ref a0), (1, .int n1), (2, .int n2)] → WW (F0 m 4 ls []) := by
    intro n
    induction n with
    | zero =>
      intro n1 n2 e1 hlp
      exact absurd hlp (by simp [loop])
    | succ n ih =>
      intro n1 n2 e1 hlp K ls hl
      obtain ⟨x9, hf, hlp⟩ := loop_s hlp
      have hf : f_X5_freePlaces_L4 c_places c_pieces n1 n2 = some x9 := hf
      unfold f_X5_freePlaces_L4 at hf
      have hJ23 : ∀ (n1 : Int32) (n2 : Int32), f_X5_freePlaces_L4_J23 n1 n2 c_places c_pieces = some x9 → ∀ (ls : Array Slot), lv_has ls 3 [(0, .ref a0), (1, .int n1), (2, .int n2)] → WW (F0 m 23 ls []) := by
        intro n1 n2 hf ls hl
        unfold f_X5_freePlaces_L4_J23 at hf
        refine (hWW _).mpr ?_
        refine lv_iinc (v := (n2 + 1)) (lv' := [(2, .int (n2 + 1)), (0, .ref a0), (1, .int n1)]) hx hb dX5_freePlaces_23 hl (k := 2) rfl rfl (by decide) rfl (fun ls hl => ?_)
        refine lv_goto (tgt := 4) hx hb dX5_freePlaces_26 (by decide) ?_
        obtain rfl := Option.some.inj hf
        exact (hWW _).mp (ih  _ _ _ hlp K ls (lv_sub hl [1, 2, 0] rfl))
      refine (hWW _).mpr ?_
      refine lv_iload_n hx hb dX5_freePlaces_4 rfl (lv_at hl 2 rfl) ?_
      refine lv_aload_n hx hb dX5_freePlaces_5 rfl (lv_at hl 0 rfl) ?_
      refine va_get (D := D) (ci := 4) (v := .int c_places) (C := RX5) (T := TX5) (N := 10) hx hb hts (fun w h => mb (iX5 w h)) hown hK hP 0 rfl rfl 4 (by decide) (hts _ (mb tb_53)) (fun _ h9 => h9) rfl dX5_freePlaces_6 ?_
      refine lv_icmp_ge (tgt := 29) hx hb dX5_freePlaces_9 (by decide) (fun h1 => ?_) (fun h1 => ?_)
      · have hf := ipos h1 hf
        obtain rfl := Option.some.inj hf
        cases lpx_r hlp
        exact (hWW _).mp (K ls (lv_sub hl [1] rfl))
      · have hf := ineg h1 hf
        refine lv_aload_n hx hb dX5_freePlaces_12 rfl (lv_at hl 0 rfl) ?_
        refine lv_iload_n hx hb dX5_freePlaces_13 rfl (lv_at hl 2 rfl) ?_
        obtain ⟨r2, hc3, hf⟩ := ob1 hf
        refine ro_calli (r := r2) (va_runV (As := [.int n2]) (rest := []) ⟨hx, hb, hml, hown, hts⟩ (k_X5_isFree l hl0 D cI cJ cZ cS B0 H a0 a_lot a_pieces a_mark a_byDistance c_lanes c_positions c_room c_gap c_places c_picked c_pieces n2 r2 hc3) (cwV 1 hts (gV tb_530 tb_531 tb_532 tb_3 tb_533) rfl rfl rfl (by decide +kernel) ⟨Nat.le_of_ble_eq_true rfl, Nat.le_of_ble_eq_true rfl⟩) ⟨rp_blind, va_recv hK hP (ci := 4) (q0 := 0) rfl rfl, rp_pre (hP.sub [0, 1] rfl) hK (hBn _ _ hS) (hEn _ _ hS)⟩ rfl rfl hl.1 rfl (lv_room (Nat.le_of_ble_eq_true rfl)) dX5_freePlaces_14 ⟨Nat.le_of_ble_eq_true rfl, Nat.le_of_ble_eq_true rfl⟩) ?_
        refine lv_if_eq (tgt := 23) hx hb dX5_freePlaces_17 (by decide) (fun h4 => ?_) (fun h4 => ?_)
        · have hf := ipos h4 hf
          exact (hWW _).mp (hJ23 _ _ hf ls (lv_sub hl [0, 1, 2] rfl))
        · have hf := ineg h4 hf
          refine lv_iinc (v := (n1 + 1)) (lv' := [(1, .int (n1 + 1)), (0, .ref a0), (2, .int n2)]) hx hb dX5_freePlaces_20 hl (k := 1) rfl rfl (by decide) rfl (fun ls hl => ?_)
          exact (hWW _).mp (hJ23 _ _ hf ls (lv_sub hl [1, 0, 2] rfl))
  refine (hWW _).mpr ?_
  refine lv_iconst (v := 0) hx hb dX5_freePlaces_0 (by decide) ?_
  refine lv_istore_n (lv' := [(1, .int 0), (0, .ref a0)]) hx hb dX5_freePlaces_1 rfl hl (by decide) rfl (fun ls hl => ?_)
  refine lv_iconst (v := 0) hx hb dX5_freePlaces_2 (by decide) ?_
  refine lv_istore_n (lv' := [(2, .int 0), (1, .int 0), (0, .ref a0)]) hx hb dX5_freePlaces_3 rfl hl (by decide) rfl (fun ls hl => ?_)
  obtain ⟨m6, hc5, hf⟩ := ob1 hf
  refine (hWW _).mp (hL4 fu _ _ _ hc5 (fun ls hl => ?_) ls (lv_sub hl [2, 1, 0] rfl))
  · refine (hWW _).mpr ?_
    refine lv_iload_n hx hb dX5_freePlaces_29 rfl (lv_at hl 0 rfl) ?_
    cases hf
    exact W.iret hx hb hr (fun t ht hW => ⟨⟨_, (), rfl, rfl, (ht.trans hHe)⟩, hS.F ht⟩) hS.2.2 dX5_freePlaces_30
def f_X5_placesFor_J12 (c_room : Int32) : Option (Int32) :=
  some 0
def f_X5_placesFor (v1 : Int32) (c_room : Int32) : Option (Int32) :=
  (if v1 ≤ 0 then f_X5_placesFor_J12 c_room
  else (if 1 ≤ c_room then gz c_room (some (((v1 + c_room) - 1) / c_room))
  else f_X5_placesFor_J12 c_room))
set_option maxHeartbeats 4000000 in
set_option maxRecDepth 100000 in
theorem k_X5_placesFor (l : Launch) (hl0 : l.stackTraces = false) (D : va_G) (cI cJ cZ cS : ClassId) (B0 : Nat) (H0 : Heap) (a0 a_lot a_pieces a_mark a_byDistance : Nat) (c_lanes : Int32) (c_positions : Int32) (c_room : Int32) (c_gap : Int32) (c_places : Int32) (c_picked : Int64) (v1 : Int32) (r9 : Int32)  (hf : f_X5_placesFor v1 c_room = some r9) : Met l yX5_placesFor (wz yX5_placesFor cX5_placesFor 2 (some .int)) ({ frames := 0, cells := 0, slots := 0, locals := 0 }) (va_Pc [.ref a0, .int v1] (rp D cI cJ cZ cS B0 [oX5 a0 c_lanes c_positions c_room c_gap c_places c_picked a_lot a_pieces a_mark a_byDistance] H0)) (va_Qi (fun (r2 : Int32) (_ : Unit) => r2 = r9) (fun _ t => t.heap = H0) (fun q => H0.size ≤ q)) 0 0 (fun q => H0.size ≤ q) := by
  refine Met.ofW (cc := cX5_placesFor) (maxL := 2) (ret := (some .int)) (by decide) rfl ?_
  intro p e s m args below meth c s₁ B hml hv
  obtain ⟨rfl, hH, hP, hK, hB0, hE⟩ := hv
  subst hH
  have hx := B.exec
  have hb := B.bytes
  have hr := B.returns
  have hts := atoms_spec (ws := (wz yX5_placesFor cX5_placesFor 2 (some .int))) B.pre
  have hown : s.vm.findClass RX5 = some m.cls := findClass_of_methodNamed B.named
  have hlocks := B.notSynchronized
  have hAB : ∀ q : Nat, s.heap.size ≤ q → B0 ≤ q := fun q h => Nat.le_trans hB0 h
  have hA : ∀ q : Nat, s.heap.size ≤ q → s.heap.size ≤ q := fun _ h => h
  have hS : va_S (fun q => s.heap.size ≤ q) s.heap s.heap [] := va_S.rf
  have hBn := fun (H : Heap) (locs : List Loc) (h : va_S (fun q => s.heap.size ≤ q) s.heap H locs) => Nat.le_trans hB0 h.1
  have hEn := fun (H : Heap) (locs : List Loc) (h : va_S (fun q => s.heap.size ≤ q) s.heap H locs) => gE_now hE h hAB
  have hl := lv_entry ([.ref a0, .int v1]) (n := 2) (Nat.le_of_ble_eq_true rfl)
  rw [lg_entry_eq]
  generalize (lg_sl ([.ref a0, .int v1]) ++ List.replicate (2 - (lg_sl ([.ref a0, .int v1])).length) Slot.unset).toArray = ls at hl ⊢
  have hl : lv_has ls 2 [(0, .ref a0), (1, .int v1)] := hl
  obtain ⟨H, hHe⟩ : ∃ H : Heap, H = s.heap := ⟨_, rfl⟩
  have hP : va_P D vwCl [oX5 a0 c_lanes c_positions c_room c_gap c_places c_picked a_lot a_pieces a_mark a_byDistance] H := by rw [hHe]; exact hP
  have hS : va_S (fun q => s.heap.size ≤ q) s.heap H [] := by rw [hHe]; exact hS
  refine W_heq hHe ?_
  unfold f_X5_placesFor at hf
  refine gen_go (fun WW hWW => ?_)
  have hJ12 : ∀ (_ : Unit), f_X5_placesFor_J12 c_room = some r9 → ∀ (ls : Array Slot), lv_has ls 2 [] → WW (F0 m 12 ls []) := by
    intro _ hf ls hl
    unfold f_X5_placesFor_J12 at hf
    refine (hWW _).mpr ?_
    refine lv_iconst (v := 0) hx hb dX5_placesFor_12 (by decide) ?_
    refine lv_goto (tgt := 29) hx hb dX5_placesFor_13 (by decide) ?_
    cases hf
    exact W.iret hx hb hr (fun t ht hW => ⟨⟨_, (), rfl, rfl, (ht.trans hHe)⟩, hS.F ht⟩) hS.2.2 dX5_placesFor_29
  refine (hWW _).mpr ?_
  refine lv_iload_n hx hb dX5_placesFor_0 rfl (lv_at hl 1 rfl) ?_
  refine lv_if_le (tgt := 12) hx hb dX5_placesFor_1 (by decide) (fun h1 => ?_) (fun h1 => ?_)
  · have hf := ipos h1 hf
    exact (hWW _).mp (hJ12 () hf ls (lv_sub hl [] rfl))
  · have hf := ineg h1 hf
    refine lv_aload_n hx hb dX5_placesFor_4 rfl (lv_at hl 0 rfl) ?_
    refine va_get (D := D) (ci := 4) (v := .int c_room) (C := RX5) (T := TX5) (N := 10) hx hb hts (fun w h => mb (iX5 w h)) hown hK hP 0 rfl rfl 2 (by decide) (hts _ (mb tb_49)) (fun _ h9 => h9) rfl dX5_placesFor_5 ?_
    refine lv_iconst (v := 1) hx hb dX5_placesFor_8 (by decide) ?_
    refine lv_icmp_ge (tgt := 16) hx hb dX5_placesFor_9 (by decide) (fun h2 => ?_) (fun h2 => ?_)
    · have hf := ipos h2 hf
      refine lv_iload_n hx hb dX5_placesFor_16 rfl (lv_at hl 1 rfl) ?_
      refine lv_aload_n hx hb dX5_placesFor_17 rfl (lv_at hl 0 rfl) ?_
      refine va_get (D := D) (ci := 4) (v := .int c_room) (C := RX5) (T := TX5) (N := 10) hx hb hts (fun w h => mb (iX5 w h)) hown hK hP 0 rfl rfl 2 (by decide) (hts _ (mb tb_49)) (fun _ h9 => h9) rfl dX5_placesFor_18 ?_
      refine lv_iadd hx hb dX5_placesFor_21 ?_
      refine lv_iconst (v := 1) hx hb dX5_placesFor_22 (by decide) ?_
      refine lv_isub hx hb dX5_placesFor_23 ?_
      refine lv_aload_n hx hb dX5_placesFor_24 rfl (lv_at hl 0 rfl) ?_
      refine va_get (D := D) (ci := 4) (v := .int c_room) (C := RX5) (T := TX5) (N := 10) hx hb hts (fun w h => mb (iX5 w h)) hown hK hP 0 rfl rfl 2 (by decide) (hts _ (mb tb_49)) (fun _ h9 => h9) rfl dX5_placesFor_25 ?_
      obtain ⟨h3, hf⟩ := ob_z hf
      refine lv_idiv hx hb dX5_placesFor_28 h3 ?_
      cases hf
      exact W.iret hx hb hr (fun t ht hW => ⟨⟨_, (), rfl, rfl, (ht.trans hHe)⟩, hS.F ht⟩) hS.2.2 dX5_placesFor_29
    · have hf := ineg h2 hf
      exact (hWW _).mp (hJ12 () hf ls (lv_sub hl [] rfl))
def f_X5_piecesOf_L4_J30 (n1 : Int32) (n2 : Int32) (n3 : Int32) (c_places : Int32) (c_lot : Nat → Int32) (c_pieces : Nat → Int32) : Option ((Int32 × Int32) ⊕ Int32) :=
  some (.inl (n2, n3 + 1))
def f_X5_piecesOf_L4 (n1 : Int32) (c_places : Int32) (c_lot : Nat → Int32) (c_pieces : Nat → Int32) (n2 : Int32) (n3 : Int32) : Option ((Int32 × Int32) ⊕ Int32) :=
  (if c_places ≤ n3 then some (.inr n2)
  else bnd1 (f_X5_isWith n3 n1 c_places c_lot c_pieces) (fun r2 =>
  ((if r2 = 0 then f_X5_piecesOf_L4_J30 n1 n2 n3 c_places c_lot c_pieces
  else gd n3 48 (f_X5_piecesOf_L4_J30 n1 (n2 + (c_pieces n3.toNatClampNeg)) n3 c_places c_lot c_pieces)))))
def f_X5_piecesOf (v1 : Int32) (c_places : Int32) (c_lot : Nat → Int32) (c_pieces : Nat → Int32) : Option (Int32) :=
  (bnd1 (loop (fun z => f_X5_piecesOf_L4 v1 c_places c_lot c_pieces z.1 z.2) fu (0, 0)) fun m7 =>
  some m7)
set_option maxHeartbeats 4000000 in
set_option maxRecDepth 100000 in
theorem k_X5_piecesOf (l : Launch) (hl0 : l.stackTraces = false) (D : va_G) (cI cJ cZ cS : ClassId) (B0 : Nat) (H0 : Heap) (a0 a_lot a_pieces a_mark a_byDistance : Nat) (c_lanes : Int32) (c_positions : Int32) (c_room : Int32) (c_gap : Int32) (c_places : Int32) (c_picked : Int64) (c_lot : Nat → Int32) (c_pieces : Nat → Int32) (v1 : Int32) (r9 : Int32)  (hf : f_X5_piecesOf v1 c_places c_lot c_pieces = some r9) : Met l yX5_piecesOf (wz yX5_piecesOf cX5_piecesOf 4 (some .int)) ({ frames := 2, cells := 0, slots := 0, locals := 43 }) (va_Pc [.ref a0, .int v1] (rp D cI cJ cZ cS B0 [oX5 a0 c_lanes c_positions c_room c_gap c_places c_picked a_lot a_pieces a_mark a_byDistance, rI cI a_lot 48 c_lot, rI cI a_pieces 48 c_pieces] H0)) (va_Qi (fun (r2 : Int32) (_ : Unit) => r2 = r9) (fun _ t => t.heap = H0) (fun q => H0.size ≤ q)) 0 0 (fun q => H0.size ≤ q) := by
  refine Met.ofW (cc := cX5_piecesOf) (maxL := 4) (ret := (some .int)) (by decide) rfl ?_
  intro p e s m args below meth c s₁ B hml hv
  obtain ⟨rfl, hH, hP, hK, hB0, hE⟩ := hv
  subst hH
  have hx := B.exec
  have hb := B.bytes
  have hr := B.returns
  have hts := atoms_spec (ws := (wz yX5_piecesOf cX5_piecesOf 4 (some .int))) B.pre
  have hown : s.vm.findClass RX5 = some m.cls := findClass_of_methodNamed B.named
  have hlocks := B.notSynchronized
  have hAB : ∀ q : Nat, s.heap.size ≤ q → B0 ≤ q := fun q h => Nat.le_trans hB0 h
  have hA : ∀ q : Nat, s.heap.size ≤ q → s.heap.size ≤ q := fun _ h => h
  have hS : va_S (fun q => s.heap.size ≤ q) s.heap s.heap [] := va_S.rf
  have hBn := fun (H : Heap) (locs : List Loc) (h : va_S (fun q => s.heap.size ≤ q) s.heap H locs) => Nat.le_trans hB0 h.1
  have hEn := fun (H : Heap) (locs : List Loc) (h : va_S (fun q => s.heap.size ≤ q) s.heap H locs) => gE_now hE h hAB
  have hl := lv_entry ([.ref a0, .int v1]) (n := 4) (Nat.le_of_ble_eq_true rfl)
  rw [lg_entry_eq]
  generalize (lg_sl ([.ref a0, .int v1]) ++ List.replicate (4 - (lg_sl ([.ref a0, .int v1])).length) Slot.unset).toArray = ls at hl ⊢
  have hl : lv_has ls 4 [(0, .ref a0), (1, .int v1)] := hl
  obtain ⟨H, hHe⟩ : ∃ H : Heap, H = s.heap := ⟨_, rfl⟩
  have hP : va_P D vwCl [oX5 a0 c_lanes c_positions c_room c_gap c_places c_picked a_lot a_pieces a_mark a_byDistance, rI cI a_lot 48 c_lot, rI cI a_pieces 48 c_pieces] H := by rw [hHe]; exact hP
  have hS : va_S (fun q => s.heap.size ≤ q) s.heap H [] := by rw [hHe]; exact hS
  refine W_heq hHe ?_
  unfold f_X5_piecesOf at hf
  refine gen_go (fun WW hWW => ?_)
  have hL4 : ∀ (n : Nat) (n1 : Int32) (n2 : Int32) (n3 : Int32) (e2 : Int32), loop (fun z => f_X5_piecesOf_L4 n1 c_places c_lot c_pieces z.1 z.2) n (n2, n3) = some e2 → (∀ (ls : Array Slot), lv_has ls 4 [(2, .int e2)] → WW (F0 m 36 ls [])) → ∀ (ls : Array Slot), lv_has ls 4 [(0, .ref a0), (1, .int n1), (2, .int n2), (3, .int n3)] → WW (F0 m 4 ls []) := by
    intro n
    induction n with
    | zero =>
      intro n1 n2 n3 e2 hlp
      exact absurd hlp (by simp [loop])
    | succ n ih =>
      intro n1 n2 n3 e2 hlp K ls hl
      obtain ⟨x9, hf, hlp⟩ := loop_s hlp
      have hf : f_X5_piecesOf_L4 n1 c_places c_lot c_pieces n2 n3 = some x9 := hf
      unfold f_X5_piecesOf_L4 at hf
      have hJ30 : ∀ (n2 : Int32) (n3 : Int32), f_X5_piecesOf_L4_J30 n1 n2 n3 c_places c_lot c_pieces = some x9 → ∀ (ls : Array Slot), lv_has ls 4 [(0, .ref a0), (1, .int n1), (2, .int n2), (3, .int n3)] → WW (F0 m 30 ls []) := by
        intro n2 n3 hf ls hl
        unfold f_X5_piecesOf_L4_J30 at hf
        refine (hWW _).mpr ?_
        refine lv_iinc (v := (n3 + 1)) (lv' := [(3, .int (n3 + 1)), (0, .ref a0), (1, .int n1), (2, .int n2)]) hx hb dX5_piecesOf_30 hl (k := 3) rfl rfl (by decide) rfl (fun ls hl => ?_)
        refine lv_goto (tgt := 4) hx hb dX5_piecesOf_33 (by decide) ?_
        obtain rfl := Option.some.inj hf
        exact (hWW _).mp (ih _ _ _ _ hlp K ls (lv_sub hl [1, 2, 3, 0] rfl))
      refine (hWW _).mpr ?_
      refine lv_iload_n hx hb dX5_piecesOf_4 rfl (lv_at hl 3 rfl) ?_
      refine lv_aload_n hx hb dX5_piecesOf_5 rfl (lv_at hl 0 rfl) ?_
      refine va_get (D := D) (ci := 4) (v := .int c_places) (C := RX5) (T := TX5) (N := 10) hx hb hts (fun w h => mb (iX5 w h)) hown hK hP 0 rfl rfl 4 (by decide) (hts _ (mb tb_53)) (fun _ h9 => h9) rfl dX5_piecesOf_6 ?_
      refine lv_icmp_ge (tgt := 36) hx hb dX5_piecesOf_9 (by decide) (fun h1 => ?_) (fun h1 => ?_)
      · have hf := ipos h1 hf
        obtain rfl := Option.some.inj hf
        cases lpx_r hlp
        exact (hWW _).mp (K ls (lv_sub hl [2] rfl))
      · have hf := ineg h1 hf
        refine lv_aload_n hx hb dX5_piecesOf_12 rfl (lv_at hl 0 rfl) ?_
        refine lv_iload_n hx hb dX5_piecesOf_13 rfl (lv_at hl 3 rfl) ?_
        refine lv_iload_n hx hb dX5_piecesOf_14 rfl (lv_at hl 1 rfl) ?_
        obtain ⟨r2, hc3, hf⟩ := ob1 hf
        refine ro_calli (r := r2) (va_runV (As := [.int n3, .int n1]) (rest := []) ⟨hx, hb, hml, hown, hts⟩ (k_X5_isWith l hl0 D cI cJ cZ cS B0 H a0 a_lot a_pieces a_mark a_byDistance c_lanes c_positions c_room c_gap c_places c_picked c_lot c_pieces n3 n1 r2 hc3) (cwV 2 hts (gV tb_585 tb_586 tb_587 tb_3 tb_588) rfl rfl rfl (by decide +kernel) ⟨Nat.le_of_ble_eq_true rfl, Nat.le_of_ble_eq_true rfl⟩) ⟨rp_blind, va_recv hK hP (ci := 4) (q0 := 0) rfl rfl, rp_pre (hP.sub [0, 1, 2] rfl) hK (hBn _ _ hS) (hEn _ _ hS)⟩ rfl rfl hl.1 rfl (lv_room (Nat.le_of_ble_eq_true rfl)) dX5_piecesOf_15 ⟨Nat.le_of_ble_eq_true rfl, Nat.le_of_ble_eq_true rfl⟩) ?_
        refine lv_if_eq (tgt := 30) hx hb dX5_piecesOf_18 (by decide) (fun h4 => ?_) (fun h4 => ?_)
        · have hf := ipos h4 hf
          exact (hWW _).mp (hJ30 _ _ hf ls (lv_sub hl [0, 1, 2, 3] rfl))
        · have hf := ineg h4 hf
          refine lv_iload_n hx hb dX5_piecesOf_21 rfl (lv_at hl 2 rfl) ?_
          refine lv_aload_n hx hb dX5_piecesOf_22 rfl (lv_at hl 0 rfl) ?_
          refine va_get (D := D) (ci := 4) (v := .ref a_pieces) (C := RX5) (T := TX5) (N := 10) hx hb hts (fun w h => mb (iX5 w h)) hown hK hP 0 rfl rfl 7 (by decide) (hts _ (mb tb_59)) (fun _ h9 => h9) rfl dX5_piecesOf_23 ?_
          refine lv_iload_n hx hb dX5_piecesOf_26 rfl (lv_at hl 3 rfl) ?_
          obtain ⟨h5, hf⟩ := ob_d hf
          refine va_iald hx hb hK hP 2 0 rfl rfl h5 dX5_piecesOf_27 ?_
          refine lv_iadd hx hb dX5_piecesOf_28 ?_
          refine lv_istore_n (lv' := [(2, .int (n2 + (c_pieces n3.toNatClampNeg))), (0, .ref a0), (1, .int n1), (3, .int n3)]) hx hb dX5_piecesOf_29 rfl hl (by decide) rfl (fun ls hl => ?_)
          exact (hWW _).mp (hJ30 _ _ hf ls (lv_sub hl [1, 2, 0, 3] rfl))
  refine (hWW _).mpr ?_
  refine lv_iconst (v := 0) hx hb dX5_piecesOf_0 (by decide) ?_
  refine lv_istore_n (lv' := [(2, .int 0), (0, .ref a0), (1, .int v1)]) hx hb dX5_piecesOf_1 rfl hl (by decide) rfl (fun ls hl => ?_)
  refine lv_iconst (v := 0) hx hb dX5_piecesOf_2 (by decide) ?_
  refine lv_istore_n (lv' := [(3, .int 0), (2, .int 0), (0, .ref a0), (1, .int v1)]) hx hb dX5_piecesOf_3 rfl hl (by decide) rfl (fun ls hl => ?_)
  obtain ⟨m7, hc6, hf⟩ := ob1 hf
  refine (hWW _).mp (hL4 fu _ _ _ _ hc6 (fun ls hl => ?_) ls (lv_sub hl [2, 3, 1, 0] rfl))
  · refine (hWW _).mpr ?_
    refine lv_iload_n hx hb dX5_piecesOf_36 rfl (lv_at hl 0 rfl) ?_
    cases hf
    exact W.iret hx hb hr (fun t ht hW => ⟨⟨_, (), rfl, rfl, (ht.trans hHe)⟩, hS.F ht⟩) hS.2.2 dX5_piecesOf_37
def f_X5_piecesOnHand_L4 (c_places : Int32) (c_pieces : Nat → Int32) (n1 : Int32) (n2 : Int32) : Option ((Int32 × Int32) ⊕ Int32) :=
  (if c_places ≤ n2 then some (.inr n1)
  else gd n2 48 (some (.inl (n1 + (c_pieces n2.toNatClampNeg), n2 + 1))))
def f_X5_piecesOnHand (c_places : Int32) (c_pieces : Nat → Int32) : Option (Int32) :=
  (bnd1 (loop (fun z => f_X5_piecesOnHand_L4 c_places c_pieces z.1 z.2) fu (0, 0)) fun m4 =>
  some m4)
set_option maxHeartbeats 4000000 in
set_option maxRecDepth 100000 in
theorem k_X5_piecesOnHand (l : Launch) (hl0 : l.stackTraces = false) (D : va_G) (cI cJ cZ cS : ClassId) (B0 : Nat) (H0 : Heap) (a0 a_lot a_pieces a_mark a_byDistance : Nat) (c_lanes : Int32) (c_positions : Int32) (c_room : Int32) (c_gap : Int32) (c_places : Int32) (c_picked : Int64) (c_pieces : Nat → Int32) (r9 : Int32)  (hf : f_X5_piecesOnHand c_places c_pieces = some r9) : Met l yX5_piecesOnHand (wz yX5_piecesOnHand cX5_piecesOnHand 3 (some .int)) ({ frames := 0, cells := 0, slots := 0, locals := 0 }) (va_Pc [.ref a0] (rp D cI cJ cZ cS B0 [oX5 a0 c_lanes c_positions c_room c_gap c_places c_picked a_lot a_pieces a_mark a_byDistance, rI cI a_pieces 48 c_pieces] H0)) (va_Qi (fun (r2 : Int32) (_ : Unit) => r2 = r9) (fun _ t => t.heap = H0) (fun q => H0.size ≤ q)) 0 0 (fun q => H0.size ≤ q) := by
  refine Met.ofW (cc := cX5_piecesOnHand) (maxL := 3) (ret := (some .int)) (by decide) rfl ?_
  intro p e s m args below meth c s₁ B hml hv
  obtain ⟨rfl, hH, hP, hK, hB0, hE⟩ := hv
  subst hH
  have hx := B.exec
  have hb := B.bytes
  have hr := B.returns
  have hts := atoms_spec (ws := (wz yX5_piecesOnHand cX5_piecesOnHand 3 (some .int))) B.pre
  have hown : s.vm.findClass RX5 = some m.cls := findClass_of_methodNamed B.named
  have hlocks := B.notSynchronized
  have hAB : ∀ q : Nat, s.heap.size ≤ q → B0 ≤ q := fun q h => Nat.le_trans hB0 h
  have hA : ∀ q : Nat, s.heap.size ≤ q → s.heap.size ≤ q := fun _ h => h
  have hS : va_S (fun q => s.heap.size ≤ q) s.heap s.heap [] := va_S.rf
  have hBn := fun (H : Heap) (locs : List Loc) (h : va_S (fun q => s.heap.size ≤ q) s.heap H locs) => Nat.le_trans hB0 h.1
  have hEn := fun (H : Heap) (locs : List Loc) (h : va_S (fun q => s.heap.size ≤ q) s.heap H locs) => gE_now hE h hAB
  have hl := lv_entry ([.ref a0]) (n := 3) (Nat.le_of_ble_eq_true rfl)
  rw [lg_entry_eq]
  generalize (lg_sl ([.ref a0]) ++ List.replicate (3 - (lg_sl ([.ref a0])).length) Slot.unset).toArray = ls at hl ⊢
  have hl : lv_has ls 3 [(0, .ref a0)] := hl
  obtain ⟨H, hHe⟩ : ∃ H : Heap, H = s.heap := ⟨_, rfl⟩
  have hP : va_P D vwCl [oX5 a0 c_lanes c_positions c_room c_gap c_places c_picked a_lot a_pieces a_mark a_byDistance, rI cI a_pieces 48 c_pieces] H := by rw [hHe]; exact hP
  have hS : va_S (fun q => s.heap.size ≤ q) s.heap H [] := by rw [hHe]; exact hS
  refine W_heq hHe ?_
  unfold f_X5_piecesOnHand at hf
  refine gen_go (fun WW hWW => ?_)
  have hL4 : ∀ (n : Nat) (n1 : Int32) (n2 : Int32) (e1 : Int32), loop (fun z => f_X5_piecesOnHand_L4 c_places c_pieces z.1 z.2) n (n1, n2) = some e1 → (∀ (ls : Array Slot), lv_has ls 3 [(1, .int e1)] → WW (F0 m 27 ls [])) → ∀ (ls : Array Slot), lv_has ls 3 [(0, .ref a0), (1, .int n1), (2, .int n2)] → WW (F0 m 4 ls []) := by
    intro n
    induction n with
    | zero =>
      intro n1 n2 e1 hlp
      exact absurd hlp (by simp [loop])
    | succ n ih =>
      intro n1 n2 e1 hlp K ls hl
      obtain ⟨x9, hf, hlp⟩ := loop_s hlp
      have hf : f_X5_piecesOnHand_L4 c_places c_pieces n1 n2 = some x9 := hf
      unfold f_X5_piecesOnHand_L4 at hf
      refine (hWW _).mpr ?_
      refine lv_iload_n hx hb dX5_piecesOnHand_4 rfl (lv_at hl 2 rfl) ?_
      refine lv_aload_n hx hb dX5_piecesOnHand_5 rfl (lv_at hl 0 rfl) ?_
      refine va_get (D := D) (ci := 4) (v := .int c_places) (C := RX5) (T := TX5) (N := 10) hx hb hts (fun w h => mb (iX5 w h)) hown hK hP 0 rfl rfl 4 (by decide) (hts _ (mb tb_53)) (fun _ h9 => h9) rfl dX5_piecesOnHand_6 ?_
      refine lv_icmp_ge (tgt := 27) hx hb dX5_piecesOnHand_9 (by decide) (fun h1 => ?_) (fun h1 => ?_)
      · have hf := ipos h1 hf
        obtain rfl := Option.some.inj hf
        cases lpx_r hlp
        exact (hWW _).mp (K ls (lv_sub hl [1] rfl))
      · have hf := ineg h1 hf
        refine lv_iload_n hx hb dX5_piecesOnHand_12 rfl (lv_at hl 1 rfl) ?_
        refine lv_aload_n hx hb dX5_piecesOnHand_13 rfl (lv_at hl 0 rfl) ?_
        refine va_get (D := D) (ci := 4) (v := .ref a_pieces) (C := RX5) (T := TX5) (N := 10) hx hb hts (fun w h => mb (iX5 w h)) hown hK hP 0 rfl rfl 7 (by decide) (hts _ (mb tb_59)) (fun _ h9 => h9) rfl dX5_piecesOnHand_14 ?_
        refine lv_iload_n hx hb dX5_piecesOnHand_17 rfl (lv_at hl 2 rfl) ?_
        obtain ⟨h2, hf⟩ := ob_d hf
        refine va_iald hx hb hK hP 1 0 rfl rfl h2 dX5_piecesOnHand_18 ?_
        refine lv_iadd hx hb dX5_piecesOnHand_19 ?_
        refine lv_istore_n (lv' := [(1, .int (n1 + (c_pieces n2.toNatClampNeg))), (0, .ref a0), (2, .int n2)]) hx hb dX5_piecesOnHand_20 rfl hl (by decide) rfl (fun ls hl => ?_)
        refine lv_iinc (v := (n2 + 1)) (lv' := [(2, .int (n2 + 1)), (1, .int (n1 + (c_pieces n2.toNatClampNeg))), (0, .ref a0)]) hx hb dX5_piecesOnHand_21 hl (k := 2) rfl rfl (by decide) rfl (fun ls hl => ?_)
        refine lv_goto (tgt := 4) hx hb dX5_piecesOnHand_24 (by decide) ?_
        obtain rfl := Option.some.inj hf
        exact (hWW _).mp (ih  _ _ _ hlp K ls (lv_sub hl [2, 1, 0] rfl))
  refine (hWW _).mpr ?_
  refine lv_iconst (v := 0) hx hb dX5_piecesOnHand_0 (by decide) ?_
  refine lv_istore_n (lv' := [(1, .int 0), (0, .ref a0)]) hx hb dX5_piecesOnHand_1 rfl hl (by decide) rfl (fun ls hl => ?_)
  refine lv_iconst (v := 0) hx hb dX5_piecesOnHand_2 (by decide) ?_
  refine lv_istore_n (lv' := [(2, .int 0), (1, .int 0), (0, .ref a0)]) hx hb dX5_piecesOnHand_3 rfl hl (by decide) rfl (fun ls hl => ?_)
  obtain ⟨m4, hc3, hf⟩ := ob1 hf
  refine (hWW _).mp (hL4 fu _ _ _ hc3 (fun ls hl => ?_) ls (lv_sub hl [2, 1, 0] rfl))
  · refine (hWW _).mpr ?_
    refine lv_iload_n hx hb dX5_piecesOnHand_27 rfl (lv_at hl 0 rfl) ?_
    cases hf
    exact W.iret hx hb hr (fun t ht hW => ⟨⟨_, (), rfl, rfl, (ht.trans hHe)⟩, hS.F ht⟩) hS.2.2 dX5_piecesOnHand_28
def f_X5_countLots_L2 (c_places : Int32) (c_lot : Nat → Int32) (c_pieces : Nat → Int32) (n2 : Int32) (cp1 : Nat → Int32) : Option ((Int32 × (Nat → Int32)) ⊕ (Nat → Int32)) :=
  (if 24 ≤ n2 then some (.inr cp1)
  else gd n2 24 (some (.inl (n2 + 1, upd cp1 n2.toNatClampNeg 0))))
def f_X5_countLots_L20_J57 (n2 : Int32) (c_places : Int32) (c_lot : Nat → Int32) (c_pieces : Nat → Int32) (cp1 : Nat → Int32) : Option ((Int32 × (Nat → Int32)) ⊕ (Nat → Int32)) :=
  some (.inl (n2 + 1, cp1))
def f_X5_countLots_L20 (c_places : Int32) (c_lot : Nat → Int32) (c_pieces : Nat → Int32) (n2 : Int32) (cp1 : Nat → Int32) : Option ((Int32 × (Nat → Int32)) ⊕ (Nat → Int32)) :=
  (if c_places ≤ n2 then some (.inr cp1)
  else gd n2 48 ((if (c_lot n2.toNatClampNeg) < 0 then f_X5_countLots_L20_J57 n2 c_places c_lot c_pieces cp1
  else (if 24 ≤ (c_lot n2.toNatClampNeg) then f_X5_countLots_L20_J57 n2 c_places c_lot c_pieces cp1
  else gd (c_lot n2.toNatClampNeg) 24 (gd n2 48 (gd (c_lot n2.toNatClampNeg) 24 (f_X5_countLots_L20_J57 n2 c_places c_lot c_pieces (upd cp1 (c_lot n2.toNatClampNeg).toNatClampNeg ((cp1 (c_lot n2.toNatClampNeg).toNatClampNeg) + (c_pieces n2.toNatClampNeg))))))))))
def f_X5_countLots (c_places : Int32) (c_lot : Nat → Int32) (c_pieces : Nat → Int32) (cp1 : Nat → Int32) : Option ((Nat → Int32)) :=
  (bnd1 (loop (fun z => f_X5_countLots_L2 c_places c_lot c_pieces z.1 z.2) fu (0, cp1)) fun c4 =>
  (bnd1 (loop (fun z => f_X5_countLots_L20 c_places c_lot c_pieces z.1 z.2) fu (0, c4)) fun c13 =>
  some c13))
set_option maxHeartbeats 4000000 in
set_option maxRecDepth 100000 in
theorem k_X5_countLots (l : Launch) (hl0 : l.stackTraces = false) (D : va_G) (cI cJ cZ cS : ClassId) (B0 : Nat) (sz : Nat) (a0 a_lot a_pieces a_mark a_byDistance ap1 : Nat) (c_lanes : Int32) (c_positions : Int32) (c_room : Int32) (c_gap : Int32) (c_places : Int32) (c_picked : Int64) (c_lot : Nat → Int32) (c_pieces : Nat → Int32) (cp1 : Nat → Int32) (ocp1 : Nat → Int32)  (hf : f_X5_countLots c_places c_lot c_pieces cp1 = some ocp1) : Met l yX5_countLots (wz yX5_countLots cX5_countLots 4 none) ({ frames := 0, cells := 0, slots := 0, locals := 0 }) (va_Pc [.ref a0, .ref ap1] (wp D cI cJ cZ cS B0 [oX5 a0 c_lanes c_positions c_room c_gap c_places c_picked a_lot a_pieces a_mark a_byDistance, rI cI a_lot 48 c_lot, rI cI a_pieces 48 c_pieces, rI cI ap1 24 cp1] sz)) (va_Qv (fun (_ : Unit) => True) (fun _ t => va_P D vwCl [oX5 a0 c_lanes c_positions c_room c_gap c_places c_picked a_lot a_pieces a_mark a_byDistance, rI cI a_lot 48 c_lot, rI cI a_pieces 48 c_pieces, rI cI ap1 24 ocp1] t.heap) (va_A [oX5 a0 c_lanes c_positions c_room c_gap c_places c_picked a_lot a_pieces a_mark a_byDistance, rI cI a_lot 48 c_lot, rI cI a_pieces 48 c_pieces, rI cI ap1 24 cp1] sz)) 0 0 (va_A [oX5 a0 c_lanes c_positions c_room c_gap c_places c_picked a_lot a_pieces a_mark a_byDistance, rI cI a_lot 48 c_lot, rI cI a_pieces 48 c_pieces, rI cI ap1 24 cp1] sz) := by
  refine Met.ofW (cc := cX5_countLots) (maxL := 4) (ret := none) (by decide) rfl ?_
  intro p e s m args below meth c s₁ B hml hv
  obtain ⟨rfl, hsz, hP, hK, hD0, hB0, hE⟩ := hv
  subst hsz
  have hx := B.exec
  have hb := B.bytes
  have hr := B.returns
  have hts := atoms_spec (ws := (wz yX5_countLots cX5_countLots 4 none)) B.pre
  have hown : s.vm.findClass RX5 = some m.cls := findClass_of_methodNamed B.named
  have hlocks := B.notSynchronized
  have hD := hD0.self (sz := s.heap.size)
  have hAB : ∀ q : Nat, va_A [oX5 a0 c_lanes c_positions c_room c_gap c_places c_picked a_lot a_pieces a_mark a_byDistance, rI cI a_lot 48 c_lot, rI cI a_pieces 48 c_pieces, rI cI ap1 24 cp1] s.heap.size q → B0 ≤ q := va_A_B hD0 hB0
  generalize hAe : va_A [oX5 a0 c_lanes c_positions c_room c_gap c_places c_picked a_lot a_pieces a_mark a_byDistance, rI cI a_lot 48 c_lot, rI cI a_pieces 48 c_pieces, rI cI ap1 24 cp1] s.heap.size = A at hD hAB ⊢
  have hA : ∀ q : Nat, s.heap.size ≤ q → A q := fun q h => by rw [← hAe]; exact Or.inr h
  have hFa := hA
  have hS : va_S A s.heap s.heap [] := va_S.rf
  have hBn := fun (H : Heap) (locs : List Loc) (h : va_S A s.heap H locs) => Nat.le_trans hB0 h.1
  have hEn := fun (H : Heap) (locs : List Loc) (h : va_S A s.heap H locs) => gE_now hE h hAB
  have hl := lv_entry ([.ref a0, .ref ap1]) (n := 4) (Nat.le_of_ble_eq_true rfl)
  rw [lg_entry_eq]
  generalize (lg_sl ([.ref a0, .ref ap1]) ++ List.replicate (4 - (lg_sl ([.ref a0, .ref ap1])).length) Slot.unset).toArray = ls at hl ⊢
  have hl : lv_has ls 4 [(0, .ref a0), (1, .ref ap1)] := hl
  obtain ⟨H, hHe⟩ : ∃ H : Heap, H = s.heap := ⟨_, rfl⟩
  have hP : va_P D vwCl [oX5 a0 c_lanes c_positions c_room c_gap c_places c_picked a_lot a_pieces a_mark a_byDistance, rI cI a_lot 48 c_lot, rI cI a_pieces 48 c_pieces, rI cI ap1 24 cp1] H := by rw [hHe]; exact hP
  have hS : va_S A s.heap H [] := by rw [hHe]; exact hS
  refine W_heq hHe ?_
  unfold f_X5_countLots at hf
  refine gen_goW (fun WW hWW => ?_)
  have hL2 : ∀ (n : Nat) (n2 : Int32) (cp1 : Nat → Int32) (e_cp1 : Nat → Int32), loop (fun z => f_X5_countLots_L2 c_places c_lot c_pieces z.1 z.2) n (n2, cp1) = some e_cp1 → (∀ (H : Heap) (locs : List Loc) (ls : Array Slot), va_P D vwCl [oX5 a0 c_lanes c_positions c_room c_gap c_places c_picked a_lot a_pieces a_mark a_byDistance, rI cI a_lot 48 c_lot, rI cI a_pieces 48 c_pieces, rI cI ap1 24 e_cp1] H → va_D A [oX5 a0 c_lanes c_positions c_room c_gap c_places c_picked a_lot a_pieces a_mark a_byDistance, rI cI a_lot 48 c_lot, rI cI a_pieces 48 c_pieces, rI cI ap1 24 e_cp1] → va_S A s.heap H locs → lv_has ls 4 [(0, .ref a0), (1, .ref ap1)] → WW H locs 0 0 (F0 m 18 ls [])) → ∀ (H : Heap) (locs : List Loc) (ls : Array Slot), va_P D vwCl [oX5 a0 c_lanes c_positions c_room c_gap c_places c_picked a_lot a_pieces a_mark a_byDistance, rI cI a_lot 48 c_lot, rI cI a_pieces 48 c_pieces, rI cI ap1 24 cp1] H → va_D A [oX5 a0 c_lanes c_positions c_room c_gap c_places c_picked a_lot a_pieces a_mark a_byDistance, rI cI a_lot 48 c_lot, rI cI a_pieces 48 c_pieces, rI cI ap1 24 cp1] → va_S A s.heap H locs → lv_has ls 4 [(0, .ref a0), (1, .ref ap1), (2, .int n2)] → WW H locs 0 0 (F0 m 2 ls []) := by
    intro n
    induction n with
    | zero =>
      intro n2 cp1 e_cp1 hlp
      exact absurd hlp (by simp [loop])
    | succ n ih =>
      intro n2 cp1 e_cp1 hlp K H locs ls hP hD hS hl
      obtain ⟨x9, hf, hlp⟩ := loop_s hlp
      have hf : f_X5_countLots_L2 c_places c_lot c_pieces n2 cp1 = some x9 := hf
      unfold f_X5_countLots_L2 at hf
      refine (hWW _ _ _ _ _).mpr ?_
      refine lv_iload_n hx hb dX5_countLots_2 rfl (lv_at hl 2 rfl) ?_
      refine lv_aload_n hx hb dX5_countLots_3 rfl (lv_at hl 1 rfl) ?_
      refine va_alen (v := 24) hx hb hK hP 3 0 rfl rfl rfl dX5_countLots_4 ?_
      refine lv_icmp_ge (tgt := 18) hx hb dX5_countLots_5 (by decide) (fun h1 => ?_) (fun h1 => ?_)
      · have hf := ipos h1 hf
        obtain rfl := Option.some.inj hf
        cases lpx_r hlp
        exact (hWW _ _ _ _ _).mp (K _ _ ls hP hD hS (lv_sub hl [0, 1] rfl))
      · have hf := ineg h1 hf
        refine lv_aload_n hx hb dX5_countLots_8 rfl (lv_at hl 1 rfl) ?_
        refine lv_iload_n hx hb dX5_countLots_9 rfl (lv_at hl 2 rfl) ?_
        refine lv_iconst (v := 0) hx hb dX5_countLots_10 (by decide) ?_
        obtain ⟨h2, hf⟩ := ob_d hf
        refine va_iast hx hb hK hP hD hS 3 0 rfl rfl h2 dX5_countLots_11 (fun H locs hP hD hS => ?_)
        have hP : va_P D vwCl [oX5 a0 c_lanes c_positions c_room c_gap c_places c_picked a_lot a_pieces a_mark a_byDistance, rI cI a_lot 48 c_lot, rI cI a_pieces 48 c_pieces, rI cI ap1 24 (upd cp1 n2.toNatClampNeg 0)] H := hP
        have hD : va_D A [oX5 a0 c_lanes c_positions c_room c_gap c_places c_picked a_lot a_pieces a_mark a_byDistance, rI cI a_lot 48 c_lot, rI cI a_pieces 48 c_pieces, rI cI ap1 24 (upd cp1 n2.toNatClampNeg 0)] := hD
        refine lv_iinc (v := (n2 + 1)) (lv' := [(2, .int (n2 + 1)), (0, .ref a0), (1, .ref ap1)]) hx hb dX5_countLots_12 hl (k := 2) rfl rfl (by decide) rfl (fun ls hl => ?_)
        refine lv_goto (tgt := 2) hx hb dX5_countLots_15 (by decide) ?_
        obtain rfl := Option.some.inj hf
        exact (hWW _ _ _ _ _).mp (ih  _ _ _ hlp K _ _ ls hP hD hS (lv_sub hl [1, 2, 0] rfl))
  have hL20 : ∀ (n : Nat) (n2 : Int32) (cp1 : Nat → Int32) (e_cp1 : Nat → Int32), loop (fun z => f_X5_countLots_L20 c_places c_lot c_pieces z.1 z.2) n (n2, cp1) = some e_cp1 → (∀ (H : Heap) (locs : List Loc) (ls : Array Slot), va_P D vwCl [oX5 a0 c_lanes c_positions c_room c_gap c_places c_picked a_lot a_pieces a_mark a_byDistance, rI cI a_lot 48 c_lot, rI cI a_pieces 48 c_pieces, rI cI ap1 24 e_cp1] H → va_D A [oX5 a0 c_lanes c_positions c_room c_gap c_places c_picked a_lot a_pieces a_mark a_byDistance, rI cI a_lot 48 c_lot, rI cI a_pieces 48 c_pieces, rI cI ap1 24 e_cp1] → va_S A s.heap H locs → lv_has ls 4 [] → WW H locs 0 0 (F0 m 63 ls [])) → ∀ (H : Heap) (locs : List Loc) (ls : Array Slot), va_P D vwCl [oX5 a0 c_lanes c_positions c_room c_gap c_places c_picked a_lot a_pieces a_mark a_byDistance, rI cI a_lot 48 c_lot, rI cI a_pieces 48 c_pieces, rI cI ap1 24 cp1] H → va_D A [oX5 a0 c_lanes c_positions c_room c_gap c_places c_picked a_lot a_pieces a_mark a_byDistance, rI cI a_lot 48 c_lot, rI cI a_pieces 48 c_pieces, rI cI ap1 24 cp1] → va_S A s.heap H locs → lv_has ls 4 [(0, .ref a0), (1, .ref ap1), (2, .int n2)] → WW H locs 0 0 (F0 m 20 ls []) := by
    intro n
    induction n with
    | zero =>
      intro n2 cp1 e_cp1 hlp
      exact absurd hlp (by simp [loop])
    | succ n ih =>
      intro n2 cp1 e_cp1 hlp K H locs ls hP hD hS hl
      obtain ⟨x9, hf, hlp⟩ := loop_s hlp
      have hf : f_X5_countLots_L20 c_places c_lot c_pieces n2 cp1 = some x9 := hf
      unfold f_X5_countLots_L20 at hf
      have hJ57 : ∀ (n2 : Int32) (cp1 : Nat → Int32), f_X5_countLots_L20_J57 n2 c_places c_lot c_pieces cp1 = some x9 → ∀ (H : Heap) (locs : List Loc) (ls : Array Slot), va_P D vwCl [oX5 a0 c_lanes c_positions c_room c_gap c_places c_picked a_lot a_pieces a_mark a_byDistance, rI cI a_lot 48 c_lot, rI cI a_pieces 48 c_pieces, rI cI ap1 24 cp1] H → va_D A [oX5 a0 c_lanes c_positions c_room c_gap c_places c_picked a_lot a_pieces a_mark a_byDistance, rI cI a_lot 48 c_lot, rI cI a_pieces 48 c_pieces, rI cI ap1 24 cp1] → va_S A s.heap H locs → lv_has ls 4 [(0, .ref a0), (1, .ref ap1), (2, .int n2)] → WW H locs 0 0 (F0 m 57 ls []) := by
        intro n2 cp1 hf H locs ls hP hD hS hl
        unfold f_X5_countLots_L20_J57 at hf
        refine (hWW _ _ _ _ _).mpr ?_
        refine lv_iinc (v := (n2 + 1)) (lv' := [(2, .int (n2 + 1)), (0, .ref a0), (1, .ref ap1)]) hx hb dX5_countLots_57 hl (k := 2) rfl rfl (by decide) rfl (fun ls hl => ?_)
        refine lv_goto (tgt := 20) hx hb dX5_countLots_60 (by decide) ?_
        obtain rfl := Option.some.inj hf
        exact (hWW _ _ _ _ _).mp (ih  _ _ _ hlp K _ _ ls hP hD hS (lv_sub hl [1, 2, 0] rfl))
      refine (hWW _ _ _ _ _).mpr ?_
      refine lv_iload_n hx hb dX5_countLots_20 rfl (lv_at hl 2 rfl) ?_
      refine lv_aload_n hx hb dX5_countLots_21 rfl (lv_at hl 0 rfl) ?_
      refine va_get (D := D) (ci := 4) (v := .int c_places) (C := RX5) (T := TX5) (N := 10) hx hb hts (fun w h => mb (iX5 w h)) hown hK hP 0 rfl rfl 4 (by decide) (hts _ (mb tb_53)) (fun _ h9 => h9) rfl dX5_countLots_22 ?_
      refine lv_icmp_ge (tgt := 63) hx hb dX5_countLots_25 (by decide) (fun h5 => ?_) (fun h5 => ?_)
      · have hf := ipos h5 hf
        obtain rfl := Option.some.inj hf
        cases lpx_r hlp
        exact (hWW _ _ _ _ _).mp (K _ _ ls hP hD hS (lv_sub hl [] rfl))
      · have hf := ineg h5 hf
        refine lv_aload_n hx hb dX5_countLots_28 rfl (lv_at hl 0 rfl) ?_
        refine va_get (D := D) (ci := 4) (v := .ref a_lot) (C := RX5) (T := TX5) (N := 10) hx hb hts (fun w h => mb (iX5 w h)) hown hK hP 0 rfl rfl 6 (by decide) (hts _ (mb tb_57)) (fun _ h9 => h9) rfl dX5_countLots_29 ?_
        refine lv_iload_n hx hb dX5_countLots_32 rfl (lv_at hl 2 rfl) ?_
        obtain ⟨h6, hf⟩ := ob_d hf
        refine va_iald hx hb hK hP 1 0 rfl rfl h6 dX5_countLots_33 ?_
        refine lv_istore_n (lv' := [(3, .int (c_lot n2.toNatClampNeg)), (0, .ref a0), (1, .ref ap1), (2, .int n2)]) hx hb dX5_countLots_34 rfl hl (by decide) rfl (fun ls hl => ?_)
        refine lv_iload_n hx hb dX5_countLots_35 rfl (lv_at hl 0 rfl) ?_
        refine lv_if_lt (tgt := 57) hx hb dX5_countLots_36 (by decide) (fun h7 => ?_) (fun h7 => ?_)
        · have hf := ipos h7 hf
          exact (hWW _ _ _ _ _).mp (hJ57 _ _ hf _ _ ls hP hD hS (lv_sub hl [1, 2, 3] rfl))
        · have hf := ineg h7 hf
          refine lv_iload_n hx hb dX5_countLots_39 rfl (lv_at hl 0 rfl) ?_
          refine lv_aload_n hx hb dX5_countLots_40 rfl (lv_at hl 2 rfl) ?_
          refine va_alen (v := 24) hx hb hK hP 3 0 rfl rfl rfl dX5_countLots_41 ?_
          refine lv_icmp_ge (tgt := 57) hx hb dX5_countLots_42 (by decide) (fun h8 => ?_) (fun h8 => ?_)
          · have hf := ipos h8 hf
            exact (hWW _ _ _ _ _).mp (hJ57 _ _ hf _ _ ls hP hD hS (lv_sub hl [1, 2, 3] rfl))
          · have hf := ineg h8 hf
            refine lv_aload_n hx hb dX5_countLots_45 rfl (lv_at hl 2 rfl) ?_
            refine lv_iload_n hx hb dX5_countLots_46 rfl (lv_at hl 0 rfl) ?_
            refine lv_dup2_11 hx hb dX5_countLots_47 rfl rfl ?_
            obtain ⟨h9, hf⟩ := ob_d hf
            refine va_iald hx hb hK hP 3 0 rfl rfl h9 dX5_countLots_48 ?_
            refine lv_aload_n hx hb dX5_countLots_49 rfl (lv_at hl 1 rfl) ?_
            refine va_get (D := D) (ci := 4) (v := .ref a_pieces) (C := RX5) (T := TX5) (N := 10) hx hb hts (fun w h => mb (iX5 w h)) hown hK hP 0 rfl rfl 7 (by decide) (hts _ (mb tb_59)) (fun _ h9 => h9) rfl dX5_countLots_50 ?_
            refine lv_iload_n hx hb dX5_countLots_53 rfl (lv_at hl 3 rfl) ?_
            obtain ⟨h10, hf⟩ := ob_d hf
            refine va_iald hx hb hK hP 2 0 rfl rfl h10 dX5_countLots_54 ?_
            refine lv_iadd hx hb dX5_countLots_55 ?_
            obtain ⟨h11, hf⟩ := ob_d hf
            refine va_iast hx hb hK hP hD hS 3 0 rfl rfl h11 dX5_countLots_56 (fun H locs hP hD hS => ?_)
            have hP : va_P D vwCl [oX5 a0 c_lanes c_positions c_room c_gap c_places c_picked a_lot a_pieces a_mark a_byDistance, rI cI a_lot 48 c_lot, rI cI a_pieces 48 c_pieces, rI cI ap1 24 (upd cp1 (c_lot n2.toNatClampNeg).toNatClampNeg ((cp1 (c_lot n2.toNatClampNeg).toNatClampNeg) + (c_pieces n2.toNatClampNeg)))] H := hP
            have hD : va_D A [oX5 a0 c_lanes c_positions c_room c_gap c_places c_picked a_lot a_pieces a_mark a_byDistance, rI cI a_lot 48 c_lot, rI cI a_pieces 48 c_pieces, rI cI ap1 24 (upd cp1 (c_lot n2.toNatClampNeg).toNatClampNeg ((cp1 (c_lot n2.toNatClampNeg).toNatClampNeg) + (c_pieces n2.toNatClampNeg)))] := hD
            exact (hWW _ _ _ _ _).mp (hJ57 _ _ hf _ _ ls hP hD hS (lv_sub hl [1, 2, 3] rfl))
  refine (hWW _ _ _ _ _).mpr ?_
  refine lv_iconst (v := 0) hx hb dX5_countLots_0 (by decide) ?_
  refine lv_istore_n (lv' := [(2, .int 0), (0, .ref a0), (1, .ref ap1)]) hx hb dX5_countLots_1 rfl hl (by decide) rfl (fun ls hl => ?_)
  obtain ⟨c4, hc3, hf⟩ := ob1 hf
  refine (hWW _ _ _ _ _).mp (hL2 fu _ _ _ hc3 (fun H locs ls hP hD hS hl => ?_) _ _ ls hP hD hS (lv_sub hl [1, 2, 0] rfl))
  · refine (hWW _ _ _ _ _).mpr ?_
    refine lv_iconst (v := 0) hx hb dX5_countLots_18 (by decide) ?_
    refine lv_istore_n (lv' := [(2, .int 0), (0, .ref a0), (1, .ref ap1)]) hx hb dX5_countLots_19 rfl hl (by decide) rfl (fun ls hl => ?_)
    obtain ⟨c13, hc12, hf⟩ := ob1 hf
    refine (hWW _ _ _ _ _).mp (hL20 fu _ _ _ hc12 (fun H locs ls hP hD hS hl => ?_) _ _ ls hP hD hS (lv_sub hl [1, 2, 0] rfl))
    · refine (hWW _ _ _ _ _).mpr ?_
      cases hf
      refine W.widen (k := 0) (n := 0) (Nat.le_of_ble_eq_true rfl) (Nat.le_of_ble_eq_true rfl) ?_
      exact W.vret hx hb hr (fun t ht hW => ⟨⟨(), rfl, trivial, (by show va_P D vwCl _ t.heap; rw [ht]; exact hP)⟩, hS.F ht⟩) hS.2.2 dX5_countLots_63
def f_X5_roomBeside_L4_J35 (n1 : Int32) (n2 : Int32) (n3 : Int32) (c_room : Int32) (c_places : Int32) (c_lot : Nat → Int32) (c_pieces : Nat → Int32) : Option ((Int32 × Int32) ⊕ Int32) :=
  some (.inl (n2, n3 + 1))
def f_X5_roomBeside_L4 (n1 : Int32) (c_room : Int32) (c_places : Int32) (c_lot : Nat → Int32) (c_pieces : Nat → Int32) (n2 : Int32) (n3 : Int32) : Option ((Int32 × Int32) ⊕ Int32) :=
  (if c_places ≤ n3 then some (.inr n2)
  else bnd1 (f_X5_isWith n3 n1 c_places c_lot c_pieces) (fun r2 =>
  ((if r2 = 0 then f_X5_roomBeside_L4_J35 n1 n2 n3 c_room c_places c_lot c_pieces
  else gd n3 48 (f_X5_roomBeside_L4_J35 n1 (n2 + (c_room - (c_pieces n3.toNatClampNeg))) n3 c_room c_places c_lot c_pieces)))))
def f_X5_roomBeside (v1 : Int32) (c_room : Int32) (c_places : Int32) (c_lot : Nat → Int32) (c_pieces : Nat → Int32) : Option (Int32) :=
  (bnd1 (loop (fun z => f_X5_roomBeside_L4 v1 c_room c_places c_lot c_pieces z.1 z.2) fu (0, 0)) fun m7 =>
  some m7)
set_option maxHeartbeats 4000000 in
set_option maxRecDepth 100000 in
theorem k_X5_roomBeside (l : Launch) (hl0 : l.stackTraces = false) (D : va_G) (cI cJ cZ cS : ClassId) (B0 : Nat) (H0 : Heap) (a0 a_lot a_pieces a_mark a_byDistance : Nat) (c_lanes : Int32) (c_positions : Int32) (c_room : Int32) (c_gap : Int32) (c_places : Int32) (c_picked : Int64) (c_lot : Nat → Int32) (c_pieces : Nat → Int32) (v1 : Int32) (r9 : Int32)  (hf : f_X5_roomBeside v1 c_room c_places c_lot c_pieces = some r9) : Met l yX5_roomBeside (wz yX5_roomBeside cX5_roomBeside 4 (some .int)) ({ frames := 2, cells := 0, slots := 0, locals := 43 }) (va_Pc [.ref a0, .int v1] (rp D cI cJ cZ cS B0 [oX5 a0 c_lanes c_positions c_room c_gap c_places c_picked a_lot a_pieces a_mark a_byDistance, rI cI a_lot 48 c_lot, rI cI a_pieces 48 c_pieces] H0)) (va_Qi (fun (r2 : Int32) (_ : Unit) => r2 = r9) (fun _ t => t.heap = H0) (fun q => H0.size ≤ q)) 0 0 (fun q => H0.size ≤ q) := by
  refine Met.ofW (cc := cX5_roomBeside) (maxL := 4) (ret := (some .int)) (by decide) rfl ?_
  intro p e s m args below meth c s₁ B hml hv
  obtain ⟨rfl, hH, hP, hK, hB0, hE⟩ := hv
  subst hH
  have hx := B.exec
  have hb := B.bytes
  have hr := B.returns
  have hts := atoms_spec (ws := (wz yX5_roomBeside cX5_roomBeside 4 (some .int))) B.pre
  have hown : s.vm.findClass RX5 = some m.cls := findClass_of_methodNamed B.named
  have hlocks := B.notSynchronized
  have hAB : ∀ q : Nat, s.heap.size ≤ q → B0 ≤ q := fun q h => Nat.le_trans hB0 h
  have hA : ∀ q : Nat, s.heap.size ≤ q → s.heap.size ≤ q := fun _ h => h
  have hS : va_S (fun q => s.heap.size ≤ q) s.heap s.heap [] := va_S.rf
  have hBn := fun (H : Heap) (locs : List Loc) (h : va_S (fun q => s.heap.size ≤ q) s.heap H locs) => Nat.le_trans hB0 h.1
  have hEn := fun (H : Heap) (locs : List Loc) (h : va_S (fun q => s.heap.size ≤ q) s.heap H locs) => gE_now hE h hAB
  have hl := lv_entry ([.ref a0, .int v1]) (n := 4) (Nat.le_of_ble_eq_true rfl)
  rw [lg_entry_eq]
  generalize (lg_sl ([.ref a0, .int v1]) ++ List.replicate (4 - (lg_sl ([.ref a0, .int v1])).length) Slot.unset).toArray = ls at hl ⊢
  have hl : lv_has ls 4 [(0, .ref a0), (1, .int v1)] := hl
  obtain ⟨H, hHe⟩ : ∃ H : Heap, H = s.heap := ⟨_, rfl⟩
  have hP : va_P D vwCl [oX5 a0 c_lanes c_positions c_room c_gap c_places c_picked a_lot a_pieces a_mark a_byDistance, rI cI a_lot 48 c_lot, rI cI a_pieces 48 c_pieces] H := by rw [hHe]; exact hP
  have hS : va_S (fun q => s.heap.size ≤ q) s.heap H [] := by rw [hHe]; exact hS
  refine W_heq hHe ?_
  unfold f_X5_roomBeside at hf
  refine gen_go (fun WW hWW => ?_)
  have hL4 : ∀ (n : Nat) (n1 : Int32) (n2 : Int32) (n3 : Int32) (e2 : Int32), loop (fun z => f_X5_roomBeside_L4 n1 c_room c_places c_lot c_pieces z.1 z.2) n (n2, n3) = some e2 → (∀ (ls : Array Slot), lv_has ls 4 [(2, .int e2)] → WW (F0 m 41 ls [])) → ∀ (ls : Array Slot), lv_has ls 4 [(0, .ref a0), (1, .int n1), (2, .int n2), (3, .int n3)] → WW (F0 m 4 ls []) := by
    intro n
    induction n with
    | zero =>
      intro n1 n2 n3 e2 hlp
      exact absurd hlp (by simp [loop])
    | succ n ih =>
      intro n1 n2 n3 e2 hlp K ls hl
      obtain ⟨x9, hf, hlp⟩ := loop_s hlp
      have hf : f_X5_roomBeside_L4 n1 c_room c_places c_lot c_pieces n2 n3 = some x9 := hf
      unfold f_X5_roomBeside_L4 at hf
      have hJ35 : ∀ (n2 : Int32) (n3 : Int32), f_X5_roomBeside_L4_J35 n1 n2 n3 c_room c_places c_lot c_pieces = some x9 → ∀ (ls : Array Slot), lv_has ls 4 [(0, .ref a0), (1, .int n1), (2, .int n2), (3, .int n3)] → WW (F0 m 35 ls []) := by
        intro n2 n3 hf ls hl
        unfold f_X5_roomBeside_L4_J35 at hf
        refine (hWW _).mpr ?_
        refine lv_iinc (v := (n3 + 1)) (lv' := [(3, .int (n3 + 1)), (0, .ref a0), (1, .int n1), (2, .int n2)]) hx hb dX5_roomBeside_35 hl (k := 3) rfl rfl (by decide) rfl (fun ls hl => ?_)
        refine lv_goto (tgt := 4) hx hb dX5_roomBeside_38 (by decide) ?_
        obtain rfl := Option.some.inj hf
        exact (hWW _).mp (ih _ _ _ _ hlp K ls (lv_sub hl [1, 2, 3, 0] rfl))
      refine (hWW _).mpr ?_
      refine lv_iload_n hx hb dX5_roomBeside_4 rfl (lv_at hl 3 rfl) ?_
      refine lv_aload_n hx hb dX5_roomBeside_5 rfl (lv_at hl 0 rfl) ?_
      refine va_get (D := D) (ci := 4) (v := .int c_places) (C := RX5) (T := TX5) (N := 10) hx hb hts (fun w h => mb (iX5 w h)) hown hK hP 0 rfl rfl 4 (by decide) (hts _ (mb tb_53)) (fun _ h9 => h9) rfl dX5_roomBeside_6 ?_
      refine lv_icmp_ge (tgt := 41) hx hb dX5_roomBeside_9 (by decide) (fun h1 => ?_) (fun h1 => ?_)
      · have hf := ipos h1 hf
        obtain rfl := Option.some.inj hf
        cases lpx_r hlp
        exact (hWW _).mp (K ls (lv_sub hl [2] rfl))
      · have hf := ineg h1 hf
        refine lv_aload_n hx hb dX5_roomBeside_12 rfl (lv_at hl 0 rfl) ?_
        refine lv_iload_n hx hb dX5_roomBeside_13 rfl (lv_at hl 3 rfl) ?_
        refine lv_iload_n hx hb dX5_roomBeside_14 rfl (lv_at hl 1 rfl) ?_
        obtain ⟨r2, hc3, hf⟩ := ob1 hf
        refine ro_calli (r := r2) (va_runV (As := [.int n3, .int n1]) (rest := []) ⟨hx, hb, hml, hown, hts⟩ (k_X5_isWith l hl0 D cI cJ cZ cS B0 H a0 a_lot a_pieces a_mark a_byDistance c_lanes c_positions c_room c_gap c_places c_picked c_lot c_pieces n3 n1 r2 hc3) (cwV 2 hts (gV tb_585 tb_586 tb_587 tb_3 tb_588) rfl rfl rfl (by decide +kernel) ⟨Nat.le_of_ble_eq_true rfl, Nat.le_of_ble_eq_true rfl⟩) ⟨rp_blind, va_recv hK hP (ci := 4) (q0 := 0) rfl rfl, rp_pre (hP.sub [0, 1, 2] rfl) hK (hBn _ _ hS) (hEn _ _ hS)⟩ rfl rfl hl.1 rfl (lv_room (Nat.le_of_ble_eq_true rfl)) dX5_roomBeside_15 ⟨Nat.le_of_ble_eq_true rfl, Nat.le_of_ble_eq_true rfl⟩) ?_
        refine lv_if_eq (tgt := 35) hx hb dX5_roomBeside_18 (by decide) (fun h4 => ?_) (fun h4 => ?_)
        · have hf := ipos h4 hf
          exact (hWW _).mp (hJ35 _ _ hf ls (lv_sub hl [0, 1, 2, 3] rfl))
        · have hf := ineg h4 hf
          refine lv_iload_n hx hb dX5_roomBeside_21 rfl (lv_at hl 2 rfl) ?_
          refine lv_aload_n hx hb dX5_roomBeside_22 rfl (lv_at hl 0 rfl) ?_
          refine va_get (D := D) (ci := 4) (v := .int c_room) (C := RX5) (T := TX5) (N := 10) hx hb hts (fun w h => mb (iX5 w h)) hown hK hP 0 rfl rfl 2 (by decide) (hts _ (mb tb_49)) (fun _ h9 => h9) rfl dX5_roomBeside_23 ?_
          refine lv_aload_n hx hb dX5_roomBeside_26 rfl (lv_at hl 0 rfl) ?_
          refine va_get (D := D) (ci := 4) (v := .ref a_pieces) (C := RX5) (T := TX5) (N := 10) hx hb hts (fun w h => mb (iX5 w h)) hown hK hP 0 rfl rfl 7 (by decide) (hts _ (mb tb_59)) (fun _ h9 => h9) rfl dX5_roomBeside_27 ?_
          refine lv_iload_n hx hb dX5_roomBeside_30 rfl (lv_at hl 3 rfl) ?_
          obtain ⟨h5, hf⟩ := ob_d hf
          refine va_iald hx hb hK hP 2 0 rfl rfl h5 dX5_roomBeside_31 ?_
          refine lv_isub hx hb dX5_roomBeside_32 ?_
          refine lv_iadd hx hb dX5_roomBeside_33 ?_
          refine lv_istore_n (lv' := [(2, .int (n2 + (c_room - (c_pieces n3.toNatClampNeg)))), (0, .ref a0), (1, .int n1), (3, .int n3)]) hx hb dX5_roomBeside_34 rfl hl (by decide) rfl (fun ls hl => ?_)
          exact (hWW _).mp (hJ35 _ _ hf ls (lv_sub hl [1, 2, 0, 3] rfl))
  refine (hWW _).mpr ?_
  refine lv_iconst (v := 0) hx hb dX5_roomBeside_0 (by decide) ?_
  refine lv_istore_n (lv' := [(2, .int 0), (0, .ref a0), (1, .int v1)]) hx hb dX5_roomBeside_1 rfl hl (by decide) rfl (fun ls hl => ?_)
  refine lv_iconst (v := 0) hx hb dX5_roomBeside_2 (by decide) ?_
  refine lv_istore_n (lv' := [(3, .int 0), (2, .int 0), (0, .ref a0), (1, .int v1)]) hx hb dX5_roomBeside_3 rfl hl (by decide) rfl (fun ls hl => ?_)
  obtain ⟨m7, hc6, hf⟩ := ob1 hf
  refine (hWW _).mp (hL4 fu _ _ _ _ hc6 (fun ls hl => ?_) ls (lv_sub hl [2, 3, 1, 0] rfl))
  · refine (hWW _).mpr ?_
    refine lv_iload_n hx hb dX5_roomBeside_41 rfl (lv_at hl 0 rfl) ?_
    cases hf
    exact W.iret hx hb hr (fun t ht hW => ⟨⟨_, (), rfl, rfl, (ht.trans hHe)⟩, hS.F ht⟩) hS.2.2 dX5_roomBeside_42
def f_X5_putBeside_L6_J97 (n1 : Int32) (n3 : Int32) (n4 : Int32) (n5 : Int32) (c_room : Int32) (c_places : Int32) (c_lot : Nat → Int32) (c_pieces : Nat → Int32) (c_mark : Nat → Int32) (c_byDistance : Nat → Int32) : Option ((Int32 × Int32 × (Nat → Int32) × (Nat → Int32) × (Nat → Int32)) ⊕ (Int32 × (Nat → Int32) × (Nat → Int32) × (Nat → Int32))) :=
  some (.inl (n4, n5 + 1, c_lot, c_pieces, c_mark))
def f_X5_putBeside_L6 (n1 : Int32) (n3 : Int32) (c_room : Int32) (c_places : Int32) (c_byDistance : Nat → Int32) (n4 : Int32) (n5 : Int32) (c_lot : Nat → Int32) (c_pieces : Nat → Int32) (c_mark : Nat → Int32) : Option ((Int32 × Int32 × (Nat → Int32) × (Nat → Int32) × (Nat → Int32)) ⊕ (Int32 × (Nat → Int32) × (Nat → Int32) × (Nat → Int32))) :=
  (if c_places ≤ n5 then some (.inr (n4, c_lot, c_pieces, c_mark))
  else (if n4 ≤ 0 then some (.inr (n4, c_lot, c_pieces, c_mark))
  else gd n5 48 (bnd1 (f_X5_isWith (c_byDistance n5.toNatClampNeg) n1 c_places c_lot c_pieces) (fun r4 =>
  ((if r4 = 0 then f_X5_putBeside_L6_J97 n1 n3 n4 n5 c_room c_places c_lot c_pieces c_mark c_byDistance
  else gd (c_byDistance n5.toNatClampNeg) 48 ((if c_room ≤ (c_pieces (c_byDistance n5.toNatClampNeg).toNatClampNeg) then f_X5_putBeside_L6_J97 n1 n3 n4 n5 c_room c_places c_lot c_pieces c_mark c_byDistance
  else gd (c_byDistance n5.toNatClampNeg) 48 (gd (c_byDistance n5.toNatClampNeg) 48 (bnd3 (f_X5_set (c_byDistance n5.toNatClampNeg) n1 ((c_pieces (c_byDistance n5.toNatClampNeg).toNatClampNeg) + (if (c_room - (c_pieces (c_byDistance n5.toNatClampNeg).toNatClampNeg)) < n4 then (c_room - (c_pieces (c_byDistance n5.toNatClampNeg).toNatClampNeg)) else n4)) n3 c_places c_lot c_pieces c_mark) (fun o13 o14 o15 =>
  (f_X5_putBeside_L6_J97 n1 n3 (n4 - (if (c_room - (c_pieces (c_byDistance n5.toNatClampNeg).toNatClampNeg)) < n4 then (c_room - (c_pieces (c_byDistance n5.toNatClampNeg).toNatClampNeg)) else n4)) n5 c_room c_places o13 o14 o15 c_byDistance))))))))))))
def f_X5_putBeside (v1 : Int32) (v2 : Int32) (v3 : Int32) (c_room : Int32) (c_places : Int32) (c_lot : Nat → Int32) (c_pieces : Nat → Int32) (c_mark : Nat → Int32) (c_byDistance : Nat → Int32) : Option (Int32 × (Nat → Int32) × (Nat → Int32) × (Nat → Int32)) :=
  (bnd4 (loop (fun z => f_X5_putBeside_L6 v1 v3 c_room c_places c_byDistance z.1 z.2.1 z.2.2.1 z.2.2.2.1 z.2.2.2.2) fu (v2, 0, c_lot, c_pieces, c_mark)) fun m17 c18 c19 c20 =>
  some (m17, c18, c19, c20))
set_option maxHeartbeats 4000000 in
set_option maxRecDepth 100000 in
theorem k_X5_putBeside (l : Launch) (hl0 : l.stackTraces = false) (D : va_G) (cI cJ cZ cS : ClassId) (B0 : Nat) (sz : Nat) (a0 a_lot a_pieces a_mark a_byDistance : Nat) (c_lanes : Int32) (c_positions : Int32) (c_room : Int32) (c_gap : Int32) (c_places : Int32) (c_picked : Int64) (c_lot : Nat → Int32) (c_pieces : Nat → Int32) (c_mark : Nat → Int32) (c_byDistance : Nat → Int32) (v1 : Int32) (v2 : Int32) (v3 : Int32) (r9 : Int32) (oc_lot : Nat → Int32) (oc_pieces : Nat → Int32) (oc_mark : Nat → Int32)  (hf : f_X5_putBeside v1 v2 v3 c_room c_places c_lot c_pieces c_mark c_byDistance = some (r9, oc_lot, oc_pieces, oc_mark)) : Met l yX5_putBeside (wz yX5_putBeside cX5_putBeside 8 (some .int)) ({ frames := 2, cells := 0, slots := 0, locals := 45 }) (va_Pc [.ref a0, .int v1, .int v2, .int v3] (wp D cI cJ cZ cS B0 [oX5 a0 c_lanes c_positions c_room c_gap c_places c_picked a_lot a_pieces a_mark a_byDistance, rI cI a_lot 48 c_lot, rI cI a_pieces 48 c_pieces, rI cI a_mark 48 c_mark, rI cI a_byDistance 48 c_byDistance] sz)) (va_Qi (fun (r2 : Int32) (_ : Unit) => r2 = r9) (fun _ t => va_P D vwCl [oX5 a0 c_lanes c_positions c_room c_gap c_places c_picked a_lot a_pieces a_mark a_byDistance, rI cI a_lot 48 oc_lot, rI cI a_pieces 48 oc_pieces, rI cI a_mark 48 oc_mark, rI cI a_byDistance 48 c_byDistance] t.heap) (va_A [oX5 a0 c_lanes c_positions c_room c_gap c_places c_picked a_lot a_pieces a_mark a_byDistance, rI cI a_lot 48 c_lot, rI cI a_pieces 48 c_pieces, rI cI a_mark 48 c_mark, rI cI a_byDistance 48 c_byDistance] sz)) 0 0 (va_A [oX5 a0 c_lanes c_positions c_room c_gap c_places c_picked a_lot a_pieces a_mark a_byDistance, rI cI a_lot 48 c_lot, rI cI a_pieces 48 c_pieces, rI cI a_mark 48 c_mark, rI cI a_byDistance 48 c_byDistance] sz) := by
  refine Met.ofW (cc := cX5_putBeside) (maxL := 8) (ret := (some .int)) (by decide) rfl ?_
  intro p e s m args below meth c s₁ B hml hv
  obtain ⟨rfl, hsz, hP, hK, hD0, hB0, hE⟩ := hv
  subst hsz
  have hx := B.exec
  have hb := B.bytes
  have hr := B.returns
  have hts := atoms_spec (ws := (wz yX5_putBeside cX5_putBeside 8 (some .int))) B.pre
  have hown : s.vm.findClass RX5 = some m.cls := findClass_of_methodNamed B.named
  have hlocks := B.notSynchronized
  have hD := hD0.self (sz := s.heap.size)
  have hAB : ∀ q : Nat, va_A [oX5 a0 c_lanes c_positions c_room c_gap c_places c_picked a_lot a_pieces a_mark a_byDistance, rI cI a_lot 48 c_lot, rI cI a_pieces 48 c_pieces, rI cI a_mark 48 c_mark, rI cI a_byDistance 48 c_byDistance] s.heap.size q → B0 ≤ q := va_A_B hD0 hB0
  generalize hAe : va_A [oX5 a0 c_lanes c_positions c_room c_gap c_places c_picked a_lot a_pieces a_mark a_byDistance, rI cI a_lot 48 c_lot, rI cI a_pieces 48 c_pieces, rI cI a_mark 48 c_mark, rI cI a_byDistance 48 c_byDistance] s.heap.size = A at hD hAB ⊢
  have hA : ∀ q : Nat, s.heap.size ≤ q → A q := fun q h => by rw [← hAe]; exact Or.inr h
  have hFa := hA
  have hS : va_S A s.heap s.heap [] := va_S.rf
  have hBn := fun (H : Heap) (locs : List Loc) (h : va_S A s.heap H locs) => Nat.le_trans hB0 h.1
  have hEn := fun (H : Heap) (locs : List Loc) (h : va_S A s.heap H locs) => gE_now hE h hAB
  have hl := lv_entry ([.ref a0, .int v1, .int v2, .int v3]) (n := 8) (Nat.le_of_ble_eq_true rfl)
  rw [lg_entry_eq]
  generalize (lg_sl ([.ref a0, .int v1, .int v2, .int v3]) ++ List.replicate (8 - (lg_sl ([.ref a0, .int v1, .int v2, .int v3])).length) Slot.unset).toArray = ls at hl ⊢
  have hl : lv_has ls 8 [(0, .ref a0), (1, .int v1), (2, .int v2), (3, .int v3)] := hl
  obtain ⟨H, hHe⟩ : ∃ H : Heap, H = s.heap := ⟨_, rfl⟩
  have hP : va_P D vwCl [oX5 a0 c_lanes c_positions c_room c_gap c_places c_picked a_lot a_pieces a_mark a_byDistance, rI cI a_lot 48 c_lot, rI cI a_pieces 48 c_pieces, rI cI a_mark 48 c_mark, rI cI a_byDistance 48 c_byDistance] H := by rw [hHe]; exact hP
  have hS : va_S A s.heap H [] := by rw [hHe]; exact hS
  refine W_heq hHe ?_
  unfold f_X5_putBeside at hf
  refine gen_goW (fun WW hWW => ?_)
  have hL6 : ∀ (n : Nat) (n1 : Int32) (n3 : Int32) (n4 : Int32) (n5 : Int32) (c_lot : Nat → Int32) (c_pieces : Nat → Int32) (c_mark : Nat → Int32) (e4 : Int32) (e_c_lot : Nat → Int32) (e_c_pieces : Nat → Int32) (e_c_mark : Nat → Int32), loop (fun z => f_X5_putBeside_L6 n1 n3 c_room c_places c_byDistance z.1 z.2.1 z.2.2.1 z.2.2.2.1 z.2.2.2.2) n (n4, n5, c_lot, c_pieces, c_mark) = some (e4, e_c_lot, e_c_pieces, e_c_mark) → (∀ (H : Heap) (locs : List Loc) (ls : Array Slot), va_P D vwCl [oX5 a0 c_lanes c_positions c_room c_gap c_places c_picked a_lot a_pieces a_mark a_byDistance, rI cI a_lot 48 e_c_lot, rI cI a_pieces 48 e_c_pieces, rI cI a_mark 48 e_c_mark, rI cI a_byDistance 48 c_byDistance] H → va_D A [oX5 a0 c_lanes c_positions c_room c_gap c_places c_picked a_lot a_pieces a_mark a_byDistance, rI cI a_lot 48 e_c_lot, rI cI a_pieces 48 e_c_pieces, rI cI a_mark 48 e_c_mark, rI cI a_byDistance 48 c_byDistance] → va_S A s.heap H locs → lv_has ls 8 [(4, .int e4)] → WW H locs 0 0 (F0 m 103 ls [])) → ∀ (H : Heap) (locs : List Loc) (ls : Array Slot), va_P D vwCl [oX5 a0 c_lanes c_positions c_room c_gap c_places c_picked a_lot a_pieces a_mark a_byDistance, rI cI a_lot 48 c_lot, rI cI a_pieces 48 c_pieces, rI cI a_mark 48 c_mark, rI cI a_byDistance 48 c_byDistance] H → va_D A [oX5 a0 c_lanes c_positions c_room c_gap c_places c_picked a_lot a_pieces a_mark a_byDistance, rI cI a_lot 48 c_lot, rI cI a_pieces 48 c_pieces, rI cI a_mark 48 c_mark, rI cI a_byDistance 48 c_byDistance] → va_S A s.heap H locs → lv_has ls 8 [(0, .ref a0), (1, .int n1), (3, .int n3), (4, .int n4), (5, .int n5)] → WW H locs 0 0 (F0 m 6 ls []) := by
    intro n
    induction n with
    | zero =>
      intro n1 n3 n4 n5 c_lot c_pieces c_mark e4 e_c_lot e_c_pieces e_c_mark hlp
      exact absurd hlp (by simp [loop])
    | succ n ih =>
      intro n1 n3 n4 n5 c_lot c_pieces c_mark e4 e_c_lot e_c_pieces e_c_mark hlp K H locs ls hP hD hS hl
      obtain ⟨x9, hf, hlp⟩ := loop_s hlp
      have hf : f_X5_putBeside_L6 n1 n3 c_room c_places c_byDistance n4 n5 c_lot c_pieces c_mark = some x9 := hf
      unfold f_X5_putBeside_L6 at hf
      have hJ97 : ∀ (n4 : Int32) (n5 : Int32) (c_lot : Nat → Int32) (c_pieces : Nat → Int32) (c_mark : Nat → Int32), f_X5_putBeside_L6_J97 n1 n3 n4 n5 c_room c_places c_lot c_pieces c_mark c_byDistance = some x9 → ∀ (H : Heap) (locs : List Loc) (ls : Array Slot), va_P D vwCl [oX5 a0 c_lanes c_positions c_room c_gap c_places c_picked a_lot a_pieces a_mark a_byDistance, rI cI a_lot 48 c_lot, rI cI a_pieces 48 c_pieces, rI cI a_mark 48 c_mark, rI cI a_byDistance 48 c_byDistance] H → va_D A [oX5 a0 c_lanes c_positions c_room c_gap c_places c_picked a_lot a_pieces a_mark a_byDistance, rI cI a_lot 48 c_lot, rI cI a_pieces 48 c_pieces, rI cI a_mark 48 c_mark, rI cI a_byDistance 48 c_byDistance] → va_S A s.heap H locs → lv_has ls 8 [(0, .ref a0), (1, .int n1), (3, .int n3), (4, .int n4), (5, .int n5)] → WW H locs 0 0 (F0 m 97 ls []) := by
        intro n4 n5 c_lot c_pieces c_mark hf H locs ls hP hD hS hl
        unfold f_X5_putBeside_L6_J97 at hf
        refine (hWW _ _ _ _ _).mpr ?_
        refine lv_iinc (v := (n5 + 1)) (lv' := [(5, .int (n5 + 1)), (0, .ref a0), (1, .int n1), (3, .int n3), (4, .int n4)]) hx hb dX5_putBeside_97 hl (k := 4) rfl rfl (by decide) rfl (fun ls hl => ?_)
        refine lv_goto (tgt := 6) hx hb dX5_putBeside_100 (by decide) ?_
        obtain rfl := Option.some.inj hf
        exact (hWW _ _ _ _ _).mp (ih _ _ _ _ _ _ _ _ _ _ _ hlp K _ _ ls hP hD hS (lv_sub hl [1, 2, 3, 4, 0] rfl))
      refine (hWW _ _ _ _ _).mpr ?_
      refine lv_iload hx hb dX5_putBeside_6 (lv_at hl 4 rfl) ?_
      refine lv_aload_n hx hb dX5_putBeside_8 rfl (lv_at hl 0 rfl) ?_
      refine va_get (D := D) (ci := 4) (v := .int c_places) (C := RX5) (T := TX5) (N := 10) hx hb hts (fun w h => mb (iX5 w h)) hown hK hP 0 rfl rfl 4 (by decide) (hts _ (mb tb_53)) (fun _ h9 => h9) rfl dX5_putBeside_9 ?_
      refine lv_icmp_ge (tgt := 103) hx hb dX5_putBeside_12 (by decide) (fun h1 => ?_) (fun h1 => ?_)
      · have hf := ipos h1 hf
        obtain rfl := Option.some.inj hf
        cases lpx_r hlp
        exact (hWW _ _ _ _ _).mp (K _ _ ls hP hD hS (lv_sub hl [3] rfl))
      · have hf := ineg h1 hf
        refine lv_iload hx hb dX5_putBeside_15 (lv_at hl 3 rfl) ?_
        refine lv_if_le (tgt := 103) hx hb dX5_putBeside_17 (by decide) (fun h2 => ?_) (fun h2 => ?_)
        · have hf := ipos h2 hf
          obtain rfl := Option.some.inj hf
          cases lpx_r hlp
          exact (hWW _ _ _ _ _).mp (K _ _ ls hP hD hS (lv_sub hl [3] rfl))
        · have hf := ineg h2 hf
          refine lv_aload_n hx hb dX5_putBeside_20 rfl (lv_at hl 0 rfl) ?_
          refine va_get (D := D) (ci := 4) (v := .ref a_byDistance) (C := RX5) (T := TX5) (N := 10) hx hb hts (fun w h => mb (iX5 w h)) hown hK hP 0 rfl rfl 9 (by decide) (hts _ (mb tb_63)) (fun _ h9 => h9) rfl dX5_putBeside_21 ?_
          refine lv_iload hx hb dX5_putBeside_24 (lv_at hl 4 rfl) ?_
          obtain ⟨h3, hf⟩ := ob_d hf
          refine va_iald hx hb hK hP 4 0 rfl rfl h3 dX5_putBeside_26 ?_
          refine lv_istore (lv' := [(6, .int (c_byDistance n5.toNatClampNeg)), (0, .ref a0), (1, .int n1), (3, .int n3), (4, .int n4), (5, .int n5)]) hx hb dX5_putBeside_27 hl (by decide) rfl (fun ls hl => ?_)
          refine lv_aload_n hx hb dX5_putBeside_29 rfl (lv_at hl 1 rfl) ?_
          refine lv_iload hx hb dX5_putBeside_30 (lv_at hl 0 rfl) ?_
          refine lv_iload_n hx hb dX5_putBeside_32 rfl (lv_at hl 2 rfl) ?_
          obtain ⟨r4, hc5, hf⟩ := ob1 hf
          refine ro_calli (r := r4) (va_runV (As := [.int (c_byDistance n5.toNatClampNeg), .int n1]) (rest := []) ⟨hx, hb, hml, hown, hts⟩ (k_X5_isWith l hl0 D cI cJ cZ cS B0 H a0 a_lot a_pieces a_mark a_byDistance c_lanes c_positions c_room c_gap c_places c_picked c_lot c_pieces (c_byDistance n5.toNatClampNeg) n1 r4 hc5) (cwV 2 hts (gV tb_585 tb_586 tb_587 tb_3 tb_588) rfl rfl rfl (by decide +kernel) ⟨Nat.le_of_ble_eq_true rfl, Nat.le_of_ble_eq_true rfl⟩) ⟨rp_blind, va_recv hK hP (ci := 4) (q0 := 0) rfl rfl, rp_pre (hP.sub [0, 1, 2] rfl) hK (hBn _ _ hS) (hEn _ _ hS)⟩ rfl rfl hl.1 rfl (lv_room (Nat.le_of_ble_eq_true rfl)) dX5_putBeside_33 ⟨Nat.le_of_ble_eq_true rfl, Nat.le_of_ble_eq_true rfl⟩) ?_
          refine lv_if_eq (tgt := 97) hx hb dX5_putBeside_36 (by decide) (fun h6 => ?_) (fun h6 => ?_)
          · have hf := ipos h6 hf
            exact (hWW _ _ _ _ _).mp (hJ97 _ _ _ _ _ hf _ _ ls hP hD hS (lv_sub hl [1, 2, 3, 4, 5] rfl))
          · have hf := ineg h6 hf
            refine lv_aload_n hx hb dX5_putBeside_39 rfl (lv_at hl 1 rfl) ?_
            refine va_get (D := D) (ci := 4) (v := .ref a_pieces) (C := RX5) (T := TX5) (N := 10) hx hb hts (fun w h => mb (iX5 w h)) hown hK hP 0 rfl rfl 7 (by decide) (hts _ (mb tb_59)) (fun _ h9 => h9) rfl dX5_putBeside_40 ?_
            refine lv_iload hx hb dX5_putBeside_43 (lv_at hl 0 rfl) ?_
            obtain ⟨h7, hf⟩ := ob_d hf
            refine va_iald hx hb hK hP 2 0 rfl rfl h7 dX5_putBeside_45 ?_
            refine lv_aload_n hx hb dX5_putBeside_46 rfl (lv_at hl 1 rfl) ?_
            refine va_get (D := D) (ci := 4) (v := .int c_room) (C := RX5) (T := TX5) (N := 10) hx hb hts (fun w h => mb (iX5 w h)) hown hK hP 0 rfl rfl 2 (by decide) (hts _ (mb tb_49)) (fun _ h9 => h9) rfl dX5_putBeside_47 ?_
            refine lv_icmp_ge (tgt := 97) hx hb dX5_putBeside_50 (by decide) (fun h8 => ?_) (fun h8 => ?_)
            · have hf := ipos h8 hf
              exact (hWW _ _ _ _ _).mp (hJ97 _ _ _ _ _ hf _ _ ls hP hD hS (lv_sub hl [1, 2, 3, 4, 5] rfl))
            · have hf := ineg h8 hf
              refine lv_iload hx hb dX5_putBeside_53 (lv_at hl 4 rfl) ?_
              refine lv_aload_n hx hb dX5_putBeside_55 rfl (lv_at hl 1 rfl) ?_
              refine va_get (D := D) (ci := 4) (v := .int c_room) (C := RX5) (T := TX5) (N := 10) hx hb hts (fun w h => mb (iX5 w h)) hown hK hP 0 rfl rfl 2 (by decide) (hts _ (mb tb_49)) (fun _ h9 => h9) rfl dX5_putBeside_56 ?_
              refine lv_aload_n hx hb dX5_putBeside_59 rfl (lv_at hl 1 rfl) ?_
              refine va_get (D := D) (ci := 4) (v := .ref a_pieces) (C := RX5) (T := TX5) (N := 10) hx hb hts (fun w h => mb (iX5 w h)) hown hK hP 0 rfl rfl 7 (by decide) (hts _ (mb tb_59)) (fun _ h9 => h9) rfl dX5_putBeside_60 ?_
              refine lv_iload hx hb dX5_putBeside_63 (lv_at hl 0 rfl) ?_
              obtain ⟨h9, hf⟩ := ob_d hf
              refine va_iald hx hb hK hP 2 0 rfl rfl h9 dX5_putBeside_65 ?_
              refine lv_isub hx hb dX5_putBeside_66 ?_
              refine va_mmin hx hb (hml.trans hl.1.symm) hown (hts _ (mb tb_256)) (hts _ (mb tb_257)) (hts _ (mb tb_8)) (hts _ (mb wm_min)) (Nat.le_of_ble_eq_true rfl) (Nat.le_of_ble_eq_true rfl) (Nat.zero_le _) (Nat.zero_le _) dX5_putBeside_67 ?_
              refine lv_istore (lv' := [(7, .int (if (c_room - (c_pieces (c_byDistance n5.toNatClampNeg).toNatClampNeg)) < n4 then (c_room - (c_pieces (c_byDistance n5.toNatClampNeg).toNatClampNeg)) else n4)), (6, .int (c_byDistance n5.toNatClampNeg)), (0, .ref a0), (1, .int n1), (3, .int n3), (4, .int n4), (5, .int n5)]) hx hb dX5_putBeside_70 hl (by decide) rfl (fun ls hl => ?_)
              refine lv_aload_n hx hb dX5_putBeside_72 rfl (lv_at hl 2 rfl) ?_
              refine lv_iload hx hb dX5_putBeside_73 (lv_at hl 1 rfl) ?_
              refine lv_iload_n hx hb dX5_putBeside_75 rfl (lv_at hl 3 rfl) ?_
              refine lv_aload_n hx hb dX5_putBeside_76 rfl (lv_at hl 2 rfl) ?_
              refine va_get (D := D) (ci := 4) (v := .ref a_pieces) (C := RX5) (T := TX5) (N := 10) hx hb hts (fun w h => mb (iX5 w h)) hown hK hP 0 rfl rfl 7 (by decide) (hts _ (mb tb_59)) (fun _ h9 => h9) rfl dX5_putBeside_77 ?_
              refine lv_iload hx hb dX5_putBeside_80 (lv_at hl 1 rfl) ?_
              obtain ⟨h10, hf⟩ := ob_d hf
              refine va_iald hx hb hK hP 2 0 rfl rfl h10 dX5_putBeside_82 ?_
              refine lv_iload hx hb dX5_putBeside_83 (lv_at hl 0 rfl) ?_
              refine lv_iadd hx hb dX5_putBeside_85 ?_
              refine lv_iload_n hx hb dX5_putBeside_86 rfl (lv_at hl 4 rfl) ?_
              obtain ⟨o13, o14, o15, hc12, hf⟩ := ob3 hf
              refine rw_callv (va_runV (As := [.int (c_byDistance n5.toNatClampNeg), .int n1, .int ((c_pieces (c_byDistance n5.toNatClampNeg).toNatClampNeg) + (if (c_room - (c_pieces (c_byDistance n5.toNatClampNeg).toNatClampNeg)) < n4 then (c_room - (c_pieces (c_byDistance n5.toNatClampNeg).toNatClampNeg)) else n4)), .int n3]) (rest := []) ⟨hx, hb, hml, hown, hts⟩ (k_X5_set l hl0 D cI cJ cZ cS B0 H.size a0 a_lot a_pieces a_mark a_byDistance c_lanes c_positions c_room c_gap c_places c_picked c_lot c_pieces c_mark (c_byDistance n5.toNatClampNeg) n1 ((c_pieces (c_byDistance n5.toNatClampNeg).toNatClampNeg) + (if (c_room - (c_pieces (c_byDistance n5.toNatClampNeg).toNatClampNeg)) < n4 then (c_room - (c_pieces (c_byDistance n5.toNatClampNeg).toNatClampNeg)) else n4)) n3 o13 o14 o15 hc12) (cwV 4 hts (gV tb_259 tb_260 tb_261 tb_3 tb_262) rfl rfl rfl (by decide +kernel) ⟨Nat.le_of_ble_eq_true rfl, Nat.le_of_ble_eq_true rfl⟩) ⟨wp_blind, va_recv hK hP (ci := 4) (q0 := 0) rfl rfl, wp_pre (hP.sub [0, 1, 2, 3] rfl) hK (va_D.sub (hD.weaken (fun _ _ _ h9 => hAB _ h9)) [0, 1, 2, 3] rfl rfl) (hBn _ _ hS) (hEn _ _ hS)⟩ rfl rfl hl.1 rfl (lv_room (Nat.le_of_ble_eq_true rfl)) dX5_putBeside_87 ⟨Nat.le_of_ble_eq_true rfl, Nat.le_of_ble_eq_true rfl⟩) hP hD hS hA [oX5 a0 c_lanes c_positions c_room c_gap c_places c_picked a_lot a_pieces a_mark a_byDistance, rI cI a_lot 48 o13, rI cI a_pieces 48 o14, rI cI a_mark 48 o15, rI cI a_byDistance 48 c_byDistance] 5 [0, 1, 2, 3] [4] rfl rfl rfl rfl (by decide +kernel) rfl (fun H locs hP hD hS => ?_)
              refine lv_iload hx hb dX5_putBeside_90 (lv_at hl 5 rfl) ?_
              refine lv_iload hx hb dX5_putBeside_92 (lv_at hl 0 rfl) ?_
              refine lv_isub hx hb dX5_putBeside_94 ?_
              refine lv_istore (lv' := [(4, .int (n4 - (if (c_room - (c_pieces (c_byDistance n5.toNatClampNeg).toNatClampNeg)) < n4 then (c_room - (c_pieces (c_byDistance n5.toNatClampNeg).toNatClampNeg)) else n4))), (7, .int (if (c_room - (c_pieces (c_byDistance n5.toNatClampNeg).toNatClampNeg)) < n4 then (c_room - (c_pieces (c_byDistance n5.toNatClampNeg).toNatClampNeg)) else n4)), (6, .int (c_byDistance n5.toNatClampNeg)), (0, .ref a0), (1, .int n1), (3, .int n3), (5, .int n5)]) hx hb dX5_putBeside_95 hl (by decide) rfl (fun ls hl => ?_)
              exact (hWW _ _ _ _ _).mp (hJ97 _ _ _ _ _ hf _ _ ls hP hD hS (lv_sub hl [3, 4, 5, 0, 6] rfl))
  refine (hWW _ _ _ _ _).mpr ?_
  refine lv_iload_n hx hb dX5_putBeside_0 rfl (lv_at hl 2 rfl) ?_
  refine lv_istore (lv' := [(4, .int v2), (0, .ref a0), (1, .int v1), (2, .int v2), (3, .int v3)]) hx hb dX5_putBeside_1 hl (by decide) rfl (fun ls hl => ?_)
  refine lv_iconst (v := 0) hx hb dX5_putBeside_3 (by decide) ?_
  refine lv_istore (lv' := [(5, .int 0), (4, .int v2), (0, .ref a0), (1, .int v1), (2, .int v2), (3, .int v3)]) hx hb dX5_putBeside_4 hl (by decide) rfl (fun ls hl => ?_)
  obtain ⟨m17, c18, c19, c20, hc16, hf⟩ := ob4 hf
  refine (hWW _ _ _ _ _).mp (hL6 fu _ _ _ _ _ _ _ _ _ _ _ hc16 (fun H locs ls hP hD hS hl => ?_) _ _ ls hP hD hS (lv_sub hl [2, 3, 5, 1, 0] rfl))
  · refine (hWW _ _ _ _ _).mpr ?_
    refine lv_iload hx hb dX5_putBeside_103 (lv_at hl 0 rfl) ?_
    cases hf
    refine W.widen (k := 0) (n := 0) (Nat.le_of_ble_eq_true rfl) (Nat.le_of_ble_eq_true rfl) ?_
    exact W.iret hx hb hr (fun t ht hW => ⟨⟨_, (), rfl, rfl, (by show va_P D vwCl _ t.heap; rw [ht]; exact hP)⟩, hS.F ht⟩) hS.2.2 dX5_putBeside_105
def f_X5_putAway_L6_J66 (n1 : Int32) (n3 : Int32) (n4 : Int32) (n5 : Int32) (c_room : Int32) (c_places : Int32) (c_lot : Nat → Int32) (c_pieces : Nat → Int32) (c_mark : Nat → Int32) (c_byDistance : Nat → Int32) : Option ((Int32 × Int32 × (Nat → Int32) × (Nat → Int32) × (Nat → Int32)) ⊕ ((Nat → Int32) × (Nat → Int32) × (Nat → Int32))) :=
  some (.inl (n4, n5 + 1, c_lot, c_pieces, c_mark))
def f_X5_putAway_L6 (n1 : Int32) (n3 : Int32) (c_room : Int32) (c_places : Int32) (c_byDistance : Nat → Int32) (n4 : Int32) (n5 : Int32) (c_lot : Nat → Int32) (c_pieces : Nat → Int32) (c_mark : Nat → Int32) : Option ((Int32 × Int32 × (Nat → Int32) × (Nat → Int32) × (Nat → Int32)) ⊕ ((Nat → Int32) × (Nat → Int32) × (Nat → Int32))) :=
  (if c_places ≤ n5 then some (.inr (c_lot, c_pieces, c_mark))
  else (if n4 ≤ 0 then some (.inr (c_lot, c_pieces, c_mark))
  else gd n5 48 (bnd1 (f_X5_isFree (c_byDistance n5.toNatClampNeg) c_places c_pieces) (fun r4 =>
  ((if r4 = 0 then f_X5_putAway_L6_J66 n1 n3 n4 n5 c_room c_places c_lot c_pieces c_mark c_byDistance
  else bnd3 (f_X5_set (c_byDistance n5.toNatClampNeg) n1 (if c_room < n4 then c_room else n4) n3 c_places c_lot c_pieces c_mark) (fun o9 o10 o11 =>
  (f_X5_putAway_L6_J66 n1 n3 (n4 - (if c_room < n4 then c_room else n4)) n5 c_room c_places o9 o10 o11 c_byDistance))))))))
def f_X5_putAway (v1 : Int32) (v2 : Int32) (v3 : Int32) (c_room : Int32) (c_places : Int32) (c_lot : Nat → Int32) (c_pieces : Nat → Int32) (c_mark : Nat → Int32) (c_byDistance : Nat → Int32) : Option ((Nat → Int32) × (Nat → Int32) × (Nat → Int32)) :=
  (bnd3 (loop (fun z => f_X5_putAway_L6 v1 v3 c_room c_places c_byDistance z.1 z.2.1 z.2.2.1 z.2.2.2.1 z.2.2.2.2) fu (v2, 0, c_lot, c_pieces, c_mark)) fun c13 c14 c15 =>
  some (c13, c14, c15))
set_option maxHeartbeats 4000000 in
set_option maxRecDepth 100000 in
theorem k_X5_putAway (l : Launch) (hl0 : l.stackTraces = false) (D : va_G) (cI cJ cZ cS : ClassId) (B0 : Nat) (sz : Nat) (a0 a_lot a_pieces a_mark a_byDistance : Nat) (c_lanes : Int32) (c_positions : Int32) (c_room : Int32) (c_gap : Int32) (c_places : Int32) (c_picked : Int64) (c_lot : Nat → Int32) (c_pieces : Nat → Int32) (c_mark : Nat → Int32) (c_byDistance : Nat → Int32) (v1 : Int32) (v2 : Int32) (v3 : Int32) (oc_lot : Nat → Int32) (oc_pieces : Nat → Int32) (oc_mark : Nat → Int32)  (hf : f_X5_putAway v1 v2 v3 c_room c_places c_lot c_pieces c_mark c_byDistance = some (oc_lot, oc_pieces, oc_mark)) : Met l yX5_putAway (wz yX5_putAway cX5_putAway 8 none) ({ frames := 2, cells := 0, slots := 0, locals := 45 }) (va_Pc [.ref a0, .int v1, .int v2, .int v3] (wp D cI cJ cZ cS B0 [oX5 a0 c_lanes c_positions c_room c_gap c_places c_picked a_lot a_pieces a_mark a_byDistance, rI cI a_lot 48 c_lot, rI cI a_pieces 48 c_pieces, rI cI a_mark 48 c_mark, rI cI a_byDistance 48 c_byDistance] sz)) (va_Qv (fun (_ : Unit) => True) (fun _ t => va_P D vwCl [oX5 a0 c_lanes c_positions c_room c_gap c_places c_picked a_lot a_pieces a_mark a_byDistance, rI cI a_lot 48 oc_lot, rI cI a_pieces 48 oc_pieces, rI cI a_mark 48 oc_mark, rI cI a_byDistance 48 c_byDistance] t.heap) (va_A [oX5 a0 c_lanes c_positions c_room c_gap c_places c_picked a_lot a_pieces a_mark a_byDistance, rI cI a_lot 48 c_lot, rI cI a_pieces 48 c_pieces, rI cI a_mark 48 c_mark, rI cI a_byDistance 48 c_byDistance] sz)) 0 0 (va_A [oX5 a0 c_lanes c_positions c_room c_gap c_places c_picked a_lot a_pieces a_mark a_byDistance, rI cI a_lot 48 c_lot, rI cI a_pieces 48 c_pieces, rI cI a_mark 48 c_mark, rI cI a_byDistance 48 c_byDistance] sz) := by
  refine Met.ofW (cc := cX5_putAway) (maxL := 8) (ret := none) (by decide) rfl ?_
  intro p e s m args below meth c s₁ B hml hv
  obtain ⟨rfl, hsz, hP, hK, hD0, hB0, hE⟩ := hv
  subst hsz
  have hx := B.exec
  have hb := B.bytes
  have hr := B.returns
  have hts := atoms_spec (ws := (wz yX5_putAway cX5_putAway 8 none)) B.pre
  have hown : s.vm.findClass RX5 = some m.cls := findClass_of_methodNamed B.named
  have hlocks := B.notSynchronized
  have hD := hD0.self (sz := s.heap.size)
  have hAB : ∀ q : Nat, va_A [oX5 a0 c_lanes c_positions c_room c_gap c_places c_picked a_lot a_pieces a_mark a_byDistance, rI cI a_lot 48 c_lot, rI cI a_pieces 48 c_pieces, rI cI a_mark 48 c_mark, rI cI a_byDistance 48 c_byDistance] s.heap.size q → B0 ≤ q := va_A_B hD0 hB0
  generalize hAe : va_A [oX5 a0 c_lanes c_positions c_room c_gap c_places c_picked a_lot a_pieces a_mark a_byDistance, rI cI a_lot 48 c_lot, rI cI a_pieces 48 c_pieces, rI cI a_mark 48 c_mark, rI cI a_byDistance 48 c_byDistance] s.heap.size = A at hD hAB ⊢
  have hA : ∀ q : Nat, s.heap.size ≤ q → A q := fun q h => by rw [← hAe]; exact Or.inr h
  have hFa := hA
  have hS : va_S A s.heap s.heap [] := va_S.rf
  have hBn := fun (H : Heap) (locs : List Loc) (h : va_S A s.heap H locs) => Nat.le_trans hB0 h.1
  have hEn := fun (H : Heap) (locs : List Loc) (h : va_S A s.heap H locs) => gE_now hE h hAB
  have hl := lv_entry ([.ref a0, .int v1, .int v2, .int v3]) (n := 8) (Nat.le_of_ble_eq_true rfl)
  rw [lg_entry_eq]
  generalize (lg_sl ([.ref a0, .int v1, .int v2, .int v3]) ++ List.replicate (8 - (lg_sl ([.ref a0, .int v1, .int v2, .int v3])).length) Slot.unset).toArray = ls at hl ⊢
  have hl : lv_has ls 8 [(0, .ref a0), (1, .int v1), (2, .int v2), (3, .int v3)] := hl
  obtain ⟨H, hHe⟩ : ∃ H : Heap, H = s.heap := ⟨_, rfl⟩
  have hP : va_P D vwCl [oX5 a0 c_lanes c_positions c_room c_gap c_places c_picked a_lot a_pieces a_mark a_byDistance, rI cI a_lot 48 c_lot, rI cI a_pieces 48 c_pieces, rI cI a_mark 48 c_mark, rI cI a_byDistance 48 c_byDistance] H := by rw [hHe]; exact hP
  have hS : va_S A s.heap H [] := by rw [hHe]; exact hS
  refine W_heq hHe ?_
  unfold f_X5_putAway at hf
  refine gen_goW (fun WW hWW => ?_)
  have hL6 : ∀ (n : Nat) (n1 : Int32) (n3 : Int32) (n4 : Int32) (n5 : Int32) (c_lot : Nat → Int32) (c_pieces : Nat → Int32) (c_mark : Nat → Int32) (e_c_lot : Nat → Int32) (e_c_pieces : Nat → Int32) (e_c_mark : Nat → Int32), loop (fun z => f_X5_putAway_L6 n1 n3 c_room c_places c_byDistance z.1 z.2.1 z.2.2.1 z.2.2.2.1 z.2.2.2.2) n (n4, n5, c_lot, c_pieces, c_mark) = some (e_c_lot, e_c_pieces, e_c_mark) → (∀ (H : Heap) (locs : List Loc) (ls : Array Slot), va_P D vwCl [oX5 a0 c_lanes c_positions c_room c_gap c_places c_picked a_lot a_pieces a_mark a_byDistance, rI cI a_lot 48 e_c_lot, rI cI a_pieces 48 e_c_pieces, rI cI a_mark 48 e_c_mark, rI cI a_byDistance 48 c_byDistance] H → va_D A [oX5 a0 c_lanes c_positions c_room c_gap c_places c_picked a_lot a_pieces a_mark a_byDistance, rI cI a_lot 48 e_c_lot, rI cI a_pieces 48 e_c_pieces, rI cI a_mark 48 e_c_mark, rI cI a_byDistance 48 c_byDistance] → va_S A s.heap H locs → lv_has ls 8 [] → WW H locs 0 0 (F0 m 72 ls [])) → ∀ (H : Heap) (locs : List Loc) (ls : Array Slot), va_P D vwCl [oX5 a0 c_lanes c_positions c_room c_gap c_places c_picked a_lot a_pieces a_mark a_byDistance, rI cI a_lot 48 c_lot, rI cI a_pieces 48 c_pieces, rI cI a_mark 48 c_mark, rI cI a_byDistance 48 c_byDistance] H → va_D A [oX5 a0 c_lanes c_positions c_room c_gap c_places c_picked a_lot a_pieces a_mark a_byDistance, rI cI a_lot 48 c_lot, rI cI a_pieces 48 c_pieces, rI cI a_mark 48 c_mark, rI cI a_byDistance 48 c_byDistance] → va_S A s.heap H locs → lv_has ls 8 [(0, .ref a0), (1, .int n1), (3, .int n3), (4, .int n4), (5, .int n5)] → WW H locs 0 0 (F0 m 6 ls []) := by
    intro n
    induction n with
    | zero =>
      intro n1 n3 n4 n5 c_lot c_pieces c_mark e_c_lot e_c_pieces e_c_mark hlp
      exact absurd hlp (by simp [loop])
    | succ n ih =>
      intro n1 n3 n4 n5 c_lot c_pieces c_mark e_c_lot e_c_pieces e_c_mark hlp K H locs ls hP hD hS hl
      obtain ⟨x9, hf, hlp⟩ := loop_s hlp
      have hf : f_X5_putAway_L6 n1 n3 c_room c_places c_byDistance n4 n5 c_lot c_pieces c_mark = some x9 := hf
      unfold f_X5_putAway_L6 at hf
      have hJ66 : ∀ (n4 : Int32) (n5 : Int32) (c_lot : Nat → Int32) (c_pieces : Nat → Int32) (c_mark : Nat → Int32), f_X5_putAway_L6_J66 n1 n3 n4 n5 c_room c_places c_lot c_pieces c_mark c_byDistance = some x9 → ∀ (H : Heap) (locs : List Loc) (ls : Array Slot), va_P D vwCl [oX5 a0 c_lanes c_positions c_room c_gap c_places c_picked a_lot a_pieces a_mark a_byDistance, rI cI a_lot 48 c_lot, rI cI a_pieces 48 c_pieces, rI cI a_mark 48 c_mark, rI cI a_byDistance 48 c_byDistance] H → va_D A [oX5 a0 c_lanes c_positions c_room c_gap c_places c_picked a_lot a_pieces a_mark a_byDistance, rI cI a_lot 48 c_lot, rI cI a_pieces 48 c_pieces, rI cI a_mark 48 c_mark, rI cI a_byDistance 48 c_byDistance] → va_S A s.heap H locs → lv_has ls 8 [(0, .ref a0), (1, .int n1), (3, .int n3), (4, .int n4), (5, .int n5)] → WW H locs 0 0 (F0 m 66 ls []) := by
        intro n4 n5 c_lot c_pieces c_mark hf H locs ls hP hD hS hl
        unfold f_X5_putAway_L6_J66 at hf
        refine (hWW _ _ _ _ _).mpr ?_
        refine lv_iinc (v := (n5 + 1)) (lv' := [(5, .int (n5 + 1)), (0, .ref a0), (1, .int n1), (3, .int n3), (4, .int n4)]) hx hb dX5_putAway_66 hl (k := 4) rfl rfl (by decide) rfl (fun ls hl => ?_)
        refine lv_goto (tgt := 6) hx hb dX5_putAway_69 (by decide) ?_
        obtain rfl := Option.some.inj hf
        exact (hWW _ _ _ _ _).mp (ih _ _ _ _ _ _ _ _ _ _ hlp K _ _ ls hP hD hS (lv_sub hl [1, 2, 3, 4, 0] rfl))
      refine (hWW _ _ _ _ _).mpr ?_
      refine lv_iload hx hb dX5_putAway_6 (lv_at hl 4 rfl) ?_
      refine lv_aload_n hx hb dX5_putAway_8 rfl (lv_at hl 0 rfl) ?_
      refine va_get (D := D) (ci := 4) (v := .int c_places) (C := RX5) (T := TX5) (N := 10) hx hb hts (fun w h => mb (iX5 w h)) hown hK hP 0 rfl rfl 4 (by decide) (hts _ (mb tb_53)) (fun _ h9 => h9) rfl dX5_putAway_9 ?_
      refine lv_icmp_ge (tgt := 72) hx hb dX5_putAway_12 (by decide) (fun h1 => ?_) (fun h1 => ?_)
      · have hf := ipos h1 hf
        obtain rfl := Option.some.inj hf
        cases lpx_r hlp
        exact (hWW _ _ _ _ _).mp (K _ _ ls hP hD hS (lv_sub hl [] rfl))
      · have hf := ineg h1 hf
        refine lv_iload hx hb dX5_putAway_15 (lv_at hl 3 rfl) ?_
        refine lv_if_le (tgt := 72) hx hb dX5_putAway_17 (by decide) (fun h2 => ?_) (fun h2 => ?_)
        · have hf := ipos h2 hf
          obtain rfl := Option.some.inj hf
          cases lpx_r hlp
          exact (hWW _ _ _ _ _).mp (K _ _ ls hP hD hS (lv_sub hl [] rfl))
        · have hf := ineg h2 hf
          refine lv_aload_n hx hb dX5_putAway_20 rfl (lv_at hl 0 rfl) ?_
          refine va_get (D := D) (ci := 4) (v := .ref a_byDistance) (C := RX5) (T := TX5) (N := 10) hx hb hts (fun w h => mb (iX5 w h)) hown hK hP 0 rfl rfl 9 (by decide) (hts _ (mb tb_63)) (fun _ h9 => h9) rfl dX5_putAway_21 ?_
          refine lv_iload hx hb dX5_putAway_24 (lv_at hl 4 rfl) ?_
          obtain ⟨h3, hf⟩ := ob_d hf
          refine va_iald hx hb hK hP 4 0 rfl rfl h3 dX5_putAway_26 ?_
          refine lv_istore (lv' := [(6, .int (c_byDistance n5.toNatClampNeg)), (0, .ref a0), (1, .int n1), (3, .int n3), (4, .int n4), (5, .int n5)]) hx hb dX5_putAway_27 hl (by decide) rfl (fun ls hl => ?_)
          refine lv_aload_n hx hb dX5_putAway_29 rfl (lv_at hl 1 rfl) ?_
          refine lv_iload hx hb dX5_putAway_30 (lv_at hl 0 rfl) ?_
          obtain ⟨r4, hc5, hf⟩ := ob1 hf
          refine ro_calli (r := r4) (va_runV (As := [.int (c_byDistance n5.toNatClampNeg)]) (rest := []) ⟨hx, hb, hml, hown, hts⟩ (k_X5_isFree l hl0 D cI cJ cZ cS B0 H a0 a_lot a_pieces a_mark a_byDistance c_lanes c_positions c_room c_gap c_places c_picked c_pieces (c_byDistance n5.toNatClampNeg) r4 hc5) (cwV 1 hts (gV tb_530 tb_531 tb_532 tb_3 tb_533) rfl rfl rfl (by decide +kernel) ⟨Nat.le_of_ble_eq_true rfl, Nat.le_of_ble_eq_true rfl⟩) ⟨rp_blind, va_recv hK hP (ci := 4) (q0 := 0) rfl rfl, rp_pre (hP.sub [0, 2] rfl) hK (hBn _ _ hS) (hEn _ _ hS)⟩ rfl rfl hl.1 rfl (lv_room (Nat.le_of_ble_eq_true rfl)) dX5_putAway_32 ⟨Nat.le_of_ble_eq_true rfl, Nat.le_of_ble_eq_true rfl⟩) ?_
          refine lv_if_eq (tgt := 66) hx hb dX5_putAway_35 (by decide) (fun h6 => ?_) (fun h6 => ?_)
          · have hf := ipos h6 hf
            exact (hWW _ _ _ _ _).mp (hJ66 _ _ _ _ _ hf _ _ ls hP hD hS (lv_sub hl [1, 2, 3, 4, 5] rfl))
          · have hf := ineg h6 hf
            refine lv_iload hx hb dX5_putAway_38 (lv_at hl 4 rfl) ?_
            refine lv_aload_n hx hb dX5_putAway_40 rfl (lv_at hl 1 rfl) ?_
            refine va_get (D := D) (ci := 4) (v := .int c_room) (C := RX5) (T := TX5) (N := 10) hx hb hts (fun w h => mb (iX5 w h)) hown hK hP 0 rfl rfl 2 (by decide) (hts _ (mb tb_49)) (fun _ h9 => h9) rfl dX5_putAway_41 ?_
            refine va_mmin hx hb (hml.trans hl.1.symm) hown (hts _ (mb tb_256)) (hts _ (mb tb_257)) (hts _ (mb tb_8)) (hts _ (mb wm_min)) (Nat.le_of_ble_eq_true rfl) (Nat.le_of_ble_eq_true rfl) (Nat.zero_le _) (Nat.zero_le _) dX5_putAway_44 ?_
            refine lv_istore (lv' := [(7, .int (if c_room < n4 then c_room else n4)), (6, .int (c_byDistance n5.toNatClampNeg)), (0, .ref a0), (1, .int n1), (3, .int n3), (4, .int n4), (5, .int n5)]) hx hb dX5_putAway_47 hl (by decide) rfl (fun ls hl => ?_)
            refine lv_aload_n hx hb dX5_putAway_49 rfl (lv_at hl 2 rfl) ?_
            refine lv_iload hx hb dX5_putAway_50 (lv_at hl 1 rfl) ?_
            refine lv_iload_n hx hb dX5_putAway_52 rfl (lv_at hl 3 rfl) ?_
            refine lv_iload hx hb dX5_putAway_53 (lv_at hl 0 rfl) ?_
            refine lv_iload_n hx hb dX5_putAway_55 rfl (lv_at hl 4 rfl) ?_
            obtain ⟨o9, o10, o11, hc8, hf⟩ := ob3 hf
            refine rw_callv (va_runV (As := [.int (c_byDistance n5.toNatClampNeg), .int n1, .int (if c_room < n4 then c_room else n4), .int n3]) (rest := []) ⟨hx, hb, hml, hown, hts⟩ (k_X5_set l hl0 D cI cJ cZ cS B0 H.size a0 a_lot a_pieces a_mark a_byDistance c_lanes c_positions c_room c_gap c_places c_picked c_lot c_pieces c_mark (c_byDistance n5.toNatClampNeg) n1 (if c_room < n4 then c_room else n4) n3 o9 o10 o11 hc8) (cwV 4 hts (gV tb_259 tb_260 tb_261 tb_3 tb_262) rfl rfl rfl (by decide +kernel) ⟨Nat.le_of_ble_eq_true rfl, Nat.le_of_ble_eq_true rfl⟩) ⟨wp_blind, va_recv hK hP (ci := 4) (q0 := 0) rfl rfl, wp_pre (hP.sub [0, 1, 2, 3] rfl) hK (va_D.sub (hD.weaken (fun _ _ _ h9 => hAB _ h9)) [0, 1, 2, 3] rfl rfl) (hBn _ _ hS) (hEn _ _ hS)⟩ rfl rfl hl.1 rfl (lv_room (Nat.le_of_ble_eq_true rfl)) dX5_putAway_56 ⟨Nat.le_of_ble_eq_true rfl, Nat.le_of_ble_eq_true rfl⟩) hP hD hS hA [oX5 a0 c_lanes c_positions c_room c_gap c_places c_picked a_lot a_pieces a_mark a_byDistance, rI cI a_lot 48 o9, rI cI a_pieces 48 o10, rI cI a_mark 48 o11, rI cI a_byDistance 48 c_byDistance] 5 [0, 1, 2, 3] [4] rfl rfl rfl rfl (by decide +kernel) rfl (fun H locs hP hD hS => ?_)
            refine lv_iload hx hb dX5_putAway_59 (lv_at hl 5 rfl) ?_
            refine lv_iload hx hb dX5_putAway_61 (lv_at hl 0 rfl) ?_
            refine lv_isub hx hb dX5_putAway_63 ?_
            refine lv_istore (lv' := [(4, .int (n4 - (if c_room < n4 then c_room else n4))), (7, .int (if c_room < n4 then c_room else n4)), (6, .int (c_byDistance n5.toNatClampNeg)), (0, .ref a0), (1, .int n1), (3, .int n3), (5, .int n5)]) hx hb dX5_putAway_64 hl (by decide) rfl (fun ls hl => ?_)
            exact (hWW _ _ _ _ _).mp (hJ66 _ _ _ _ _ hf _ _ ls hP hD hS (lv_sub hl [3, 4, 5, 0, 6] rfl))
  refine (hWW _ _ _ _ _).mpr ?_
  refine lv_iload_n hx hb dX5_putAway_0 rfl (lv_at hl 2 rfl) ?_
  refine lv_istore (lv' := [(4, .int v2), (0, .ref a0), (1, .int v1), (2, .int v2), (3, .int v3)]) hx hb dX5_putAway_1 hl (by decide) rfl (fun ls hl => ?_)
  refine lv_iconst (v := 0) hx hb dX5_putAway_3 (by decide) ?_
  refine lv_istore (lv' := [(5, .int 0), (4, .int v2), (0, .ref a0), (1, .int v1), (2, .int v2), (3, .int v3)]) hx hb dX5_putAway_4 hl (by decide) rfl (fun ls hl => ?_)
  obtain ⟨c13, c14, c15, hc12, hf⟩ := ob3 hf
  refine (hWW _ _ _ _ _).mp (hL6 fu _ _ _ _ _ _ _ _ _ _ hc12 (fun H locs ls hP hD hS hl => ?_) _ _ ls hP hD hS (lv_sub hl [2, 3, 5, 1, 0] rfl))
  · refine (hWW _ _ _ _ _).mpr ?_
    cases hf
    refine W.widen (k := 0) (n := 0) (Nat.le_of_ble_eq_true rfl) (Nat.le_of_ble_eq_true rfl) ?_
    exact W.vret hx hb hr (fun t ht hW => ⟨⟨(), rfl, trivial, (by show va_P D vwCl _ t.heap; rw [ht]; exact hP)⟩, hS.F ht⟩) hS.2.2 dX5_putAway_72
def f_X5_pick_L5_J86 (n1 : Int32) (n3 : Int32) (n4 : Int32) (c_places : Int32) (c_picked : Int64) (c_lot : Nat → Int32) (c_pieces : Nat → Int32) (c_mark : Nat → Int32) (c_byDistance : Nat → Int32) : Option ((Int32 × Int32 × Int64 × (Nat → Int32) × (Nat → Int32) × (Nat → Int32)) ⊕ (Int64 × (Nat → Int32) × (Nat → Int32) × (Nat → Int32))) :=
  some (.inl (n3, n4 + 1, c_picked, c_lot, c_pieces, c_mark))
def f_X5_pick_L5 (n1 : Int32) (c_places : Int32) (c_byDistance : Nat → Int32) (n3 : Int32) (n4 : Int32) (c_picked : Int64) (c_lot : Nat → Int32) (c_pieces : Nat → Int32) (c_mark : Nat → Int32) : Option ((Int32 × Int32 × Int64 × (Nat → Int32) × (Nat → Int32) × (Nat → Int32)) ⊕ (Int64 × (Nat → Int32) × (Nat → Int32) × (Nat → Int32))) :=
  (if c_places ≤ n4 then some (.inr (c_picked, c_lot, c_pieces, c_mark))
  else (if n3 ≤ 0 then some (.inr (c_picked, c_lot, c_pieces, c_mark))
  else gd n4 48 (bnd1 (f_X5_isWith (c_byDistance n4.toNatClampNeg) n1 c_places c_lot c_pieces) (fun r4 =>
  ((if r4 = 0 then f_X5_pick_L5_J86 n1 n3 n4 c_places c_picked c_lot c_pieces c_mark c_byDistance
  else gd (c_byDistance n4.toNatClampNeg) 48 (gd (c_byDistance n4.toNatClampNeg) 48 (bnd3 (f_X5_set (c_byDistance n4.toNatClampNeg) n1 ((c_pieces (c_byDistance n4.toNatClampNeg).toNatClampNeg) - (if (c_pieces (c_byDistance n4.toNatClampNeg).toNatClampNeg) < n3 then (c_pieces (c_byDistance n4.toNatClampNeg).toNatClampNeg) else n3)) 2 c_places c_lot c_pieces c_mark) (fun o11 o12 o13 =>
  (f_X5_pick_L5_J86 n1 (n3 - (if (c_pieces (c_byDistance n4.toNatClampNeg).toNatClampNeg) < n3 then (c_pieces (c_byDistance n4.toNatClampNeg).toNatClampNeg) else n3)) n4 c_places (c_picked ||| ((1 : Int64) <<< ((c_byDistance n4.toNatClampNeg).toInt64 &&& 63))) o11 o12 o13 c_byDistance))))))))))
def f_X5_pick (v1 : Int32) (v2 : Int32) (c_places : Int32) (c_picked : Int64) (c_lot : Nat → Int32) (c_pieces : Nat → Int32) (c_mark : Nat → Int32) (c_byDistance : Nat → Int32) : Option (Int64 × (Nat → Int32) × (Nat → Int32) × (Nat → Int32)) :=
  (bnd4 (loop (fun z => f_X5_pick_L5 v1 c_places c_byDistance z.1 z.2.1 z.2.2.1 z.2.2.2.1 z.2.2.2.2.1 z.2.2.2.2.2) fu (v2, 0, c_picked, c_lot, c_pieces, c_mark)) fun c15 c16 c17 c18 =>
  some (c15, c16, c17, c18))
set_option maxHeartbeats 4000000 in
set_option maxRecDepth 100000 in
theorem k_X5_pick (l : Launch) (hl0 : l.stackTraces = false) (D : va_G) (cI cJ cZ cS : ClassId) (B0 : Nat) (sz : Nat) (a0 a_lot a_pieces a_mark a_byDistance : Nat) (c_lanes : Int32) (c_positions : Int32) (c_room : Int32) (c_gap : Int32) (c_places : Int32) (c_picked : Int64) (c_lot : Nat → Int32) (c_pieces : Nat → Int32) (c_mark : Nat → Int32) (c_byDistance : Nat → Int32) (v1 : Int32) (v2 : Int32) (oc_picked : Int64) (oc_lot : Nat → Int32) (oc_pieces : Nat → Int32) (oc_mark : Nat → Int32)  (hf : f_X5_pick v1 v2 c_places c_picked c_lot c_pieces c_mark c_byDistance = some (oc_picked, oc_lot, oc_pieces, oc_mark)) : Met l yX5_pick (wz yX5_pick cX5_pick 7 none) ({ frames := 2, cells := 0, slots := 0, locals := 45 }) (va_Pc [.ref a0, .int v1, .int v2] (wp D cI cJ cZ cS B0 [oX5 a0 c_lanes c_positions c_room c_gap c_places c_picked a_lot a_pieces a_mark a_byDistance, rI cI a_lot 48 c_lot, rI cI a_pieces 48 c_pieces, rI cI a_mark 48 c_mark, rI cI a_byDistance 48 c_byDistance] sz)) (va_Qv (fun (_ : Unit) => True) (fun _ t => va_P D vwCl [oX5 a0 c_lanes c_positions c_room c_gap c_places oc_picked a_lot a_pieces a_mark a_byDistance, rI cI a_lot 48 oc_lot, rI cI a_pieces 48 oc_pieces, rI cI a_mark 48 oc_mark, rI cI a_byDistance 48 c_byDistance] t.heap) (va_A [oX5 a0 c_lanes c_positions c_room c_gap c_places c_picked a_lot a_pieces a_mark a_byDistance, rI cI a_lot 48 c_lot, rI cI a_pieces 48 c_pieces, rI cI a_mark 48 c_mark, rI cI a_byDistance 48 c_byDistance] sz)) 0 0 (va_A [oX5 a0 c_lanes c_positions c_room c_gap c_places c_picked a_lot a_pieces a_mark a_byDistance, rI cI a_lot 48 c_lot, rI cI a_pieces 48 c_pieces, rI cI a_mark 48 c_mark, rI cI a_byDistance 48 c_byDistance] sz) := by
  refine Met.ofW (cc := cX5_pick) (maxL := 7) (ret := none) (by decide) rfl ?_
  intro p e s m args below meth c s₁ B hml hv
  obtain ⟨rfl, hsz, hP, hK, hD0, hB0, hE⟩ := hv
  subst hsz
  have hx := B.exec
  have hb := B.bytes
  have hr := B.returns
  have hts := atoms_spec (ws := (wz yX5_pick cX5_pick 7 none)) B.pre
  have hown : s.vm.findClass RX5 = some m.cls := findClass_of_methodNamed B.named
  have hlocks := B.notSynchronized
  have hD := hD0.self (sz := s.heap.size)
  have hAB : ∀ q : Nat, va_A [oX5 a0 c_lanes c_positions c_room c_gap c_places c_picked a_lot a_pieces a_mark a_byDistance, rI cI a_lot 48 c_lot, rI cI a_pieces 48 c_pieces, rI cI a_mark 48 c_mark, rI cI a_byDistance 48 c_byDistance] s.heap.size q → B0 ≤ q := va_A_B hD0 hB0
  generalize hAe : va_A [oX5 a0 c_lanes c_positions c_room c_gap c_places c_picked a_lot a_pieces a_mark a_byDistance, rI cI a_lot 48 c_lot, rI cI a_pieces 48 c_pieces, rI cI a_mark 48 c_mark, rI cI a_byDistance 48 c_byDistance] s.heap.size = A at hD hAB ⊢
  have hA : ∀ q : Nat, s.heap.size ≤ q → A q := fun q h => by rw [← hAe]; exact Or.inr h
  have hFa := hA
  have hS : va_S A s.heap s.heap [] := va_S.rf
  have hBn := fun (H : Heap) (locs : List Loc) (h : va_S A s.heap H locs) => Nat.le_trans hB0 h.1
  have hEn := fun (H : Heap) (locs : List Loc) (h : va_S A s.heap H locs) => gE_now hE h hAB
  have hl := lv_entry ([.ref a0, .int v1, .int v2]) (n := 7) (Nat.le_of_ble_eq_true rfl)
  rw [lg_entry_eq]
  generalize (lg_sl ([.ref a0, .int v1, .int v2]) ++ List.replicate (7 - (lg_sl ([.ref a0, .int v1, .int v2])).length) Slot.unset).toArray = ls at hl ⊢
  have hl : lv_has ls 7 [(0, .ref a0), (1, .int v1), (2, .int v2)] := hl
  obtain ⟨H, hHe⟩ : ∃ H : Heap, H = s.heap := ⟨_, rfl⟩
  have hP : va_P D vwCl [oX5 a0 c_lanes c_positions c_room c_gap c_places c_picked a_lot a_pieces a_mark a_byDistance, rI cI a_lot 48 c_lot, rI cI a_pieces 48 c_pieces, rI cI a_mark 48 c_mark, rI cI a_byDistance 48 c_byDistance] H := by rw [hHe]; exact hP
  have hS : va_S A s.heap H [] := by rw [hHe]; exact hS
  refine W_heq hHe ?_
  unfold f_X5_pick at hf
  refine gen_goW (fun WW hWW => ?_)
  have hL5 : ∀ (n : Nat) (n1 : Int32) (n3 : Int32) (n4 : Int32) (c_picked : Int64) (c_lot : Nat → Int32) (c_pieces : Nat → Int32) (c_mark : Nat → Int32) (e_c_picked : Int64) (e_c_lot : Nat → Int32) (e_c_pieces : Nat → Int32) (e_c_mark : Nat → Int32), loop (fun z => f_X5_pick_L5 n1 c_places c_byDistance z.1 z.2.1 z.2.2.1 z.2.2.2.1 z.2.2.2.2.1 z.2.2.2.2.2) n (n3, n4, c_picked, c_lot, c_pieces, c_mark) = some (e_c_picked, e_c_lot, e_c_pieces, e_c_mark) → (∀ (H : Heap) (locs : List Loc) (ls : Array Slot), va_P D vwCl [oX5 a0 c_lanes c_positions c_room c_gap c_places e_c_picked a_lot a_pieces a_mark a_byDistance, rI cI a_lot 48 e_c_lot, rI cI a_pieces 48 e_c_pieces, rI cI a_mark 48 e_c_mark, rI cI a_byDistance 48 c_byDistance] H → va_D A [oX5 a0 c_lanes c_positions c_room c_gap c_places e_c_picked a_lot a_pieces a_mark a_byDistance, rI cI a_lot 48 e_c_lot, rI cI a_pieces 48 e_c_pieces, rI cI a_mark 48 e_c_mark, rI cI a_byDistance 48 c_byDistance] → va_S A s.heap H locs → lv_has ls 7 [] → WW H locs 0 0 (F0 m 92 ls [])) → ∀ (H : Heap) (locs : List Loc) (ls : Array Slot), va_P D vwCl [oX5 a0 c_lanes c_positions c_room c_gap c_places c_picked a_lot a_pieces a_mark a_byDistance, rI cI a_lot 48 c_lot, rI cI a_pieces 48 c_pieces, rI cI a_mark 48 c_mark, rI cI a_byDistance 48 c_byDistance] H → va_D A [oX5 a0 c_lanes c_positions c_room c_gap c_places c_picked a_lot a_pieces a_mark a_byDistance, rI cI a_lot 48 c_lot, rI cI a_pieces 48 c_pieces, rI cI a_mark 48 c_mark, rI cI a_byDistance 48 c_byDistance] → va_S A s.heap H locs → lv_has ls 7 [(0, .ref a0), (1, .int n1), (3, .int n3), (4, .int n4)] → WW H locs 0 0 (F0 m 5 ls []) := by
    intro n
    induction n with
    | zero =>
      intro n1 n3 n4 c_picked c_lot c_pieces c_mark e_c_picked e_c_lot e_c_pieces e_c_mark hlp
      exact absurd hlp (by simp [loop])
    | succ n ih =>
      intro n1 n3 n4 c_picked c_lot c_pieces c_mark e_c_picked e_c_lot e_c_pieces e_c_mark hlp K H locs ls hP hD hS hl
      obtain ⟨x9, hf, hlp⟩ := loop_s hlp
      have hf : f_X5_pick_L5 n1 c_places c_byDistance n3 n4 c_picked c_lot c_pieces c_mark = some x9 := hf
      unfold f_X5_pick_L5 at hf
      have hJ86 : ∀ (n3 : Int32) (n4 : Int32) (c_picked : Int64) (c_lot : Nat → Int32) (c_pieces : Nat → Int32) (c_mark : Nat → Int32), f_X5_pick_L5_J86 n1 n3 n4 c_places c_picked c_lot c_pieces c_mark c_byDistance = some x9 → ∀ (H : Heap) (locs : List Loc) (ls : Array Slot), va_P D vwCl [oX5 a0 c_lanes c_positions c_room c_gap c_places c_picked a_lot a_pieces a_mark a_byDistance, rI cI a_lot 48 c_lot, rI cI a_pieces 48 c_pieces, rI cI a_mark 48 c_mark, rI cI a_byDistance 48 c_byDistance] H → va_D A [oX5 a0 c_lanes c_positions c_room c_gap c_places c_picked a_lot a_pieces a_mark a_byDistance, rI cI a_lot 48 c_lot, rI cI a_pieces 48 c_pieces, rI cI a_mark 48 c_mark, rI cI a_byDistance 48 c_byDistance] → va_S A s.heap H locs → lv_has ls 7 [(0, .ref a0), (1, .int n1), (3, .int n3), (4, .int n4)] → WW H locs 0 0 (F0 m 86 ls []) := by
        intro n3 n4 c_picked c_lot c_pieces c_mark hf H locs ls hP hD hS hl
        unfold f_X5_pick_L5_J86 at hf
        refine (hWW _ _ _ _ _).mpr ?_
        refine lv_iinc (v := (n4 + 1)) (lv' := [(4, .int (n4 + 1)), (0, .ref a0), (1, .int n1), (3, .int n3)]) hx hb dX5_pick_86 hl (k := 3) rfl rfl (by decide) rfl (fun ls hl => ?_)
        refine lv_goto (tgt := 5) hx hb dX5_pick_89 (by decide) ?_
        obtain rfl := Option.some.inj hf
        exact (hWW _ _ _ _ _).mp (ih _ _ _ _ _ _ _ _ _ _ _ hlp K _ _ ls hP hD hS (lv_sub hl [1, 2, 3, 0] rfl))
      refine (hWW _ _ _ _ _).mpr ?_
      refine lv_iload hx hb dX5_pick_5 (lv_at hl 3 rfl) ?_
      refine lv_aload_n hx hb dX5_pick_7 rfl (lv_at hl 0 rfl) ?_
      refine va_get (D := D) (ci := 4) (v := .int c_places) (C := RX5) (T := TX5) (N := 10) hx hb hts (fun w h => mb (iX5 w h)) hown hK hP 0 rfl rfl 4 (by decide) (hts _ (mb tb_53)) (fun _ h9 => h9) rfl dX5_pick_8 ?_
      refine lv_icmp_ge (tgt := 92) hx hb dX5_pick_11 (by decide) (fun h1 => ?_) (fun h1 => ?_)
      · have hf := ipos h1 hf
        obtain rfl := Option.some.inj hf
        cases lpx_r hlp
        exact (hWW _ _ _ _ _).mp (K _ _ ls hP hD hS (lv_sub hl [] rfl))
      · have hf := ineg h1 hf
        refine lv_iload_n hx hb dX5_pick_14 rfl (lv_at hl 2 rfl) ?_
        refine lv_if_le (tgt := 92) hx hb dX5_pick_15 (by decide) (fun h2 => ?_) (fun h2 => ?_)
        · have hf := ipos h2 hf
          obtain rfl := Option.some.inj hf
          cases lpx_r hlp
          exact (hWW _ _ _ _ _).mp (K _ _ ls hP hD hS (lv_sub hl [] rfl))
        · have hf := ineg h2 hf
          refine lv_aload_n hx hb dX5_pick_18 rfl (lv_at hl 0 rfl) ?_
          refine va_get (D := D) (ci := 4) (v := .ref a_byDistance) (C := RX5) (T := TX5) (N := 10) hx hb hts (fun w h => mb (iX5 w h)) hown hK hP 0 rfl rfl 9 (by decide) (hts _ (mb tb_63)) (fun _ h9 => h9) rfl dX5_pick_19 ?_
          refine lv_iload hx hb dX5_pick_22 (lv_at hl 3 rfl) ?_
          obtain ⟨h3, hf⟩ := ob_d hf
          refine va_iald hx hb hK hP 4 0 rfl rfl h3 dX5_pick_24 ?_
          refine lv_istore (lv' := [(5, .int (c_byDistance n4.toNatClampNeg)), (0, .ref a0), (1, .int n1), (3, .int n3), (4, .int n4)]) hx hb dX5_pick_25 hl (by decide) rfl (fun ls hl => ?_)
          refine lv_aload_n hx hb dX5_pick_27 rfl (lv_at hl 1 rfl) ?_
          refine lv_iload hx hb dX5_pick_28 (lv_at hl 0 rfl) ?_
          refine lv_iload_n hx hb dX5_pick_30 rfl (lv_at hl 2 rfl) ?_
          obtain ⟨r4, hc5, hf⟩ := ob1 hf
          refine ro_calli (r := r4) (va_runV (As := [.int (c_byDistance n4.toNatClampNeg), .int n1]) (rest := []) ⟨hx, hb, hml, hown, hts⟩ (k_X5_isWith l hl0 D cI cJ cZ cS B0 H a0 a_lot a_pieces a_mark a_byDistance c_lanes c_positions c_room c_gap c_places c_picked c_lot c_pieces (c_byDistance n4.toNatClampNeg) n1 r4 hc5) (cwV 2 hts (gV tb_585 tb_586 tb_587 tb_3 tb_588) rfl rfl rfl (by decide +kernel) ⟨Nat.le_of_ble_eq_true rfl, Nat.le_of_ble_eq_true rfl⟩) ⟨rp_blind, va_recv hK hP (ci := 4) (q0 := 0) rfl rfl, rp_pre (hP.sub [0, 1, 2] rfl) hK (hBn _ _ hS) (hEn _ _ hS)⟩ rfl rfl hl.1 rfl (lv_room (Nat.le_of_ble_eq_true rfl)) dX5_pick_31 ⟨Nat.le_of_ble_eq_true rfl, Nat.le_of_ble_eq_true rfl⟩) ?_
          refine lv_if_eq (tgt := 86) hx hb dX5_pick_34 (by decide) (fun h6 => ?_) (fun h6 => ?_)
          · have hf := ipos h6 hf
            exact (hWW _ _ _ _ _).mp (hJ86 _ _ _ _ _ _ hf _ _ ls hP hD hS (lv_sub hl [1, 2, 3, 4] rfl))
          · have hf := ineg h6 hf
            refine lv_iload_n hx hb dX5_pick_37 rfl (lv_at hl 3 rfl) ?_
            refine lv_aload_n hx hb dX5_pick_38 rfl (lv_at hl 1 rfl) ?_
            refine va_get (D := D) (ci := 4) (v := .ref a_pieces) (C := RX5) (T := TX5) (N := 10) hx hb hts (fun w h => mb (iX5 w h)) hown hK hP 0 rfl rfl 7 (by decide) (hts _ (mb tb_59)) (fun _ h9 => h9) rfl dX5_pick_39 ?_
            refine lv_iload hx hb dX5_pick_42 (lv_at hl 0 rfl) ?_
            obtain ⟨h7, hf⟩ := ob_d hf
            refine va_iald hx hb hK hP 2 0 rfl rfl h7 dX5_pick_44 ?_
            refine va_mmin hx hb (hml.trans hl.1.symm) hown (hts _ (mb tb_256)) (hts _ (mb tb_257)) (hts _ (mb tb_8)) (hts _ (mb wm_min)) (Nat.le_of_ble_eq_true rfl) (Nat.le_of_ble_eq_true rfl) (Nat.zero_le _) (Nat.zero_le _) dX5_pick_45 ?_
            refine lv_istore (lv' := [(6, .int (if (c_pieces (c_byDistance n4.toNatClampNeg).toNatClampNeg) < n3 then (c_pieces (c_byDistance n4.toNatClampNeg).toNatClampNeg) else n3)), (5, .int (c_byDistance n4.toNatClampNeg)), (0, .ref a0), (1, .int n1), (3, .int n3), (4, .int n4)]) hx hb dX5_pick_48 hl (by decide) rfl (fun ls hl => ?_)
            refine lv_aload_n hx hb dX5_pick_50 rfl (lv_at hl 2 rfl) ?_
            refine lv_iload hx hb dX5_pick_51 (lv_at hl 1 rfl) ?_
            refine lv_iload_n hx hb dX5_pick_53 rfl (lv_at hl 3 rfl) ?_
            refine lv_aload_n hx hb dX5_pick_54 rfl (lv_at hl 2 rfl) ?_
            refine va_get (D := D) (ci := 4) (v := .ref a_pieces) (C := RX5) (T := TX5) (N := 10) hx hb hts (fun w h => mb (iX5 w h)) hown hK hP 0 rfl rfl 7 (by decide) (hts _ (mb tb_59)) (fun _ h9 => h9) rfl dX5_pick_55 ?_
            refine lv_iload hx hb dX5_pick_58 (lv_at hl 1 rfl) ?_
            obtain ⟨h8, hf⟩ := ob_d hf
            refine va_iald hx hb hK hP 2 0 rfl rfl h8 dX5_pick_60 ?_
            refine lv_iload hx hb dX5_pick_61 (lv_at hl 0 rfl) ?_
            refine lv_isub hx hb dX5_pick_63 ?_
            refine lv_iconst (v := 2) hx hb dX5_pick_64 (by decide) ?_
            obtain ⟨o11, o12, o13, hc10, hf⟩ := ob3 hf
            refine rw_callv (va_runV (As := [.int (c_byDistance n4.toNatClampNeg), .int n1, .int ((c_pieces (c_byDistance n4.toNatClampNeg).toNatClampNeg) - (if (c_pieces (c_byDistance n4.toNatClampNeg).toNatClampNeg) < n3 then (c_pieces (c_byDistance n4.toNatClampNeg).toNatClampNeg) else n3)), .int 2]) (rest := []) ⟨hx, hb, hml, hown, hts⟩ (k_X5_set l hl0 D cI cJ cZ cS B0 H.size a0 a_lot a_pieces a_mark a_byDistance c_lanes c_positions c_room c_gap c_places c_picked c_lot c_pieces c_mark (c_byDistance n4.toNatClampNeg) n1 ((c_pieces (c_byDistance n4.toNatClampNeg).toNatClampNeg) - (if (c_pieces (c_byDistance n4.toNatClampNeg).toNatClampNeg) < n3 then (c_pieces (c_byDistance n4.toNatClampNeg).toNatClampNeg) else n3)) 2 o11 o12 o13 hc10) (cwV 4 hts (gV tb_259 tb_260 tb_261 tb_3 tb_262) rfl rfl rfl (by decide +kernel) ⟨Nat.le_of_ble_eq_true rfl, Nat.le_of_ble_eq_true rfl⟩) ⟨wp_blind, va_recv hK hP (ci := 4) (q0 := 0) rfl rfl, wp_pre (hP.sub [0, 1, 2, 3] rfl) hK (va_D.sub (hD.weaken (fun _ _ _ h9 => hAB _ h9)) [0, 1, 2, 3] rfl rfl) (hBn _ _ hS) (hEn _ _ hS)⟩ rfl rfl hl.1 rfl (lv_room (Nat.le_of_ble_eq_true rfl)) dX5_pick_65 ⟨Nat.le_of_ble_eq_true rfl, Nat.le_of_ble_eq_true rfl⟩) hP hD hS hA [oX5 a0 c_lanes c_positions c_room c_gap c_places c_picked a_lot a_pieces a_mark a_byDistance, rI cI a_lot 48 o11, rI cI a_pieces 48 o12, rI cI a_mark 48 o13, rI cI a_byDistance 48 c_byDistance] 5 [0, 1, 2, 3] [4] rfl rfl rfl rfl (by decide +kernel) rfl (fun H locs hP hD hS => ?_)
            refine lv_aload_n hx hb dX5_pick_68 rfl (lv_at hl 2 rfl) ?_
            refine lv_dup hx hb dX5_pick_69 rfl ?_
            refine va_get (D := D) (ci := 4) (v := .long c_picked) (C := RX5) (T := TX5) (N := 10) hx hb hts (fun w h => mb (iX5 w h)) hown hK hP 0 rfl rfl 5 (by decide) (hts _ (mb tb_55)) (fun _ h9 => h9) rfl dX5_pick_70 ?_
            refine lv_lconst (v := 1) hx hb dX5_pick_73 (by decide) ?_
            refine lv_iload hx hb dX5_pick_74 (lv_at hl 1 rfl) ?_
            refine lv_lshl hx hb dX5_pick_76 rfl ?_
            refine lv_lor hx hb dX5_pick_77 ?_
            refine va_put (D := D) (ci := 4) (v := .long (c_picked ||| ((1 : Int64) <<< ((c_byDistance n4.toNatClampNeg).toInt64 &&& 63)))) (ty := .long) (C := RX5) (T := TX5) (N := 10) hx hb hts (fun w h => mb (iX5 w h)) tyX5 tyX5_ok nmX5 hown hK hP hD hS 0 rfl rfl 5 (by decide) (hts _ (mb tb_55)) (fun _ h9 => h9) rfl (by decide +kernel) rfl rfl (Nat.le_of_ble_eq_true rfl) dX5_pick_78 (fun H locs hP hD hS => ?_)
            have hP : va_P D vwCl [oX5 a0 c_lanes c_positions c_room c_gap c_places (c_picked ||| ((1 : Int64) <<< ((c_byDistance n4.toNatClampNeg).toInt64 &&& 63))) a_lot a_pieces a_mark a_byDistance, rI cI a_lot 48 o11, rI cI a_pieces 48 o12, rI cI a_mark 48 o13, rI cI a_byDistance 48 c_byDistance] H := hP
            have hD : va_D A [oX5 a0 c_lanes c_positions c_room c_gap c_places (c_picked ||| ((1 : Int64) <<< ((c_byDistance n4.toNatClampNeg).toInt64 &&& 63))) a_lot a_pieces a_mark a_byDistance, rI cI a_lot 48 o11, rI cI a_pieces 48 o12, rI cI a_mark 48 o13, rI cI a_byDistance 48 c_byDistance] := hD
            refine lv_iload_n hx hb dX5_pick_81 rfl (lv_at hl 4 rfl) ?_
            refine lv_iload hx hb dX5_pick_82 (lv_at hl 0 rfl) ?_
            refine lv_isub hx hb dX5_pick_84 ?_
            refine lv_istore_n (lv' := [(3, .int (n3 - (if (c_pieces (c_byDistance n4.toNatClampNeg).toNatClampNeg) < n3 then (c_pieces (c_byDistance n4.toNatClampNeg).toNatClampNeg) else n3))), (6, .int (if (c_pieces (c_byDistance n4.toNatClampNeg).toNatClampNeg) < n3 then (c_pieces (c_byDistance n4.toNatClampNeg).toNatClampNeg) else n3)), (5, .int (c_byDistance n4.toNatClampNeg)), (0, .ref a0), (1, .int n1), (4, .int n4)]) hx hb dX5_pick_85 rfl hl (by decide) rfl (fun ls hl => ?_)
            exact (hWW _ _ _ _ _).mp (hJ86 _ _ _ _ _ _ hf _ _ ls hP hD hS (lv_sub hl [3, 4, 0, 5] rfl))
  refine (hWW _ _ _ _ _).mpr ?_
  refine lv_iload_n hx hb dX5_pick_0 rfl (lv_at hl 2 rfl) ?_
  refine lv_istore_n (lv' := [(3, .int v2), (0, .ref a0), (1, .int v1), (2, .int v2)]) hx hb dX5_pick_1 rfl hl (by decide) rfl (fun ls hl => ?_)
  refine lv_iconst (v := 0) hx hb dX5_pick_2 (by decide) ?_
  refine lv_istore (lv' := [(4, .int 0), (3, .int v2), (0, .ref a0), (1, .int v1), (2, .int v2)]) hx hb dX5_pick_3 hl (by decide) rfl (fun ls hl => ?_)
  obtain ⟨c15, c16, c17, c18, hc14, hf⟩ := ob4 hf
  refine (hWW _ _ _ _ _).mp (hL5 fu _ _ _ _ _ _ _ _ _ _ _ hc14 (fun H locs ls hP hD hS hl => ?_) _ _ ls hP hD hS (lv_sub hl [2, 3, 1, 0] rfl))
  · refine (hWW _ _ _ _ _).mpr ?_
    cases hf
    refine W.widen (k := 0) (n := 0) (Nat.le_of_ble_eq_true rfl) (Nat.le_of_ble_eq_true rfl) ?_
    exact W.vret hx hb hr (fun t ht hW => ⟨⟨(), rfl, trivial, (by show va_P D vwCl _ t.heap; rw [ht]; exact hP)⟩, hS.F ht⟩) hS.2.2 dX5_pick_92
def f_X5_scrapLot_L4_J38 (n1 : Int32) (n2 : Int32) (n3 : Int32) (c_places : Int32) (c_lot : Nat → Int32) (c_pieces : Nat → Int32) (c_mark : Nat → Int32) : Option ((Int32 × Int32 × (Nat → Int32) × (Nat → Int32) × (Nat → Int32)) ⊕ (Int32 × (Nat → Int32) × (Nat → Int32) × (Nat → Int32))) :=
  some (.inl (n2, n3 + 1, c_lot, c_pieces, c_mark))
def f_X5_scrapLot_L4 (n1 : Int32) (c_places : Int32) (n2 : Int32) (n3 : Int32) (c_lot : Nat → Int32) (c_pieces : Nat → Int32) (c_mark : Nat → Int32) : Option ((Int32 × Int32 × (Nat → Int32) × (Nat → Int32) × (Nat → Int32)) ⊕ (Int32 × (Nat → Int32) × (Nat → Int32) × (Nat → Int32))) :=
  (if c_places ≤ n3 then some (.inr (n2, c_lot, c_pieces, c_mark))
  else bnd1 (f_X5_isWith n3 n1 c_places c_lot c_pieces) (fun r2 =>
  ((if r2 = 0 then f_X5_scrapLot_L4_J38 n1 n2 n3 c_places c_lot c_pieces c_mark
  else gd n3 48 (bnd3 (f_X5_set n3 (-1) 0 5 c_places c_lot c_pieces c_mark) (fun o8 o9 o10 =>
  (f_X5_scrapLot_L4_J38 n1 (n2 + (c_pieces n3.toNatClampNeg)) n3 c_places o8 o9 o10)))))))
def f_X5_scrapLot (v1 : Int32) (c_places : Int32) (c_lot : Nat → Int32) (c_pieces : Nat → Int32) (c_mark : Nat → Int32) : Option (Int32 × (Nat → Int32) × (Nat → Int32) × (Nat → Int32)) :=
  (bnd4 (loop (fun z => f_X5_scrapLot_L4 v1 c_places z.1 z.2.1 z.2.2.1 z.2.2.2.1 z.2.2.2.2) fu (0, 0, c_lot, c_pieces, c_mark)) fun m12 c13 c14 c15 =>
  some (m12, c13, c14, c15))
set_option maxHeartbeats 4000000 in
set_option maxRecDepth 100000 in
theorem k_X5_scrapLot (l : Launch) (hl0 : l.stackTraces = false) (D : va_G) (cI cJ cZ cS : ClassId) (B0 : Nat) (sz : Nat) (a0 a_lot a_pieces a_mark a_byDistance : Nat) (c_lanes : Int32) (c_positions : Int32) (c_room : Int32) (c_gap : Int32) (c_places : Int32) (c_picked : Int64) (c_lot : Nat → Int32) (c_pieces : Nat → Int32) (c_mark : Nat → Int32) (v1 : Int32) (r9 : Int32) (oc_lot : Nat → Int32) (oc_pieces : Nat → Int32) (oc_mark : Nat → Int32)  (hf : f_X5_scrapLot v1 c_places c_lot c_pieces c_mark = some (r9, oc_lot, oc_pieces, oc_mark)) : Met l yX5_scrapLot (wz yX5_scrapLot cX5_scrapLot 4 (some .int)) ({ frames := 2, cells := 0, slots := 0, locals := 45 }) (va_Pc [.ref a0, .int v1] (wp D cI cJ cZ cS B0 [oX5 a0 c_lanes c_positions c_room c_gap c_places c_picked a_lot a_pieces a_mark a_byDistance, rI cI a_lot 48 c_lot, rI cI a_pieces 48 c_pieces, rI cI a_mark 48 c_mark] sz)) (va_Qi (fun (r2 : Int32) (_ : Unit) => r2 = r9) (fun _ t => va_P D vwCl [oX5 a0 c_lanes c_positions c_room c_gap c_places c_picked a_lot a_pieces a_mark a_byDistance, rI cI a_lot 48 oc_lot, rI cI a_pieces 48 oc_pieces, rI cI a_mark 48 oc_mark] t.heap) (va_A [oX5 a0 c_lanes c_positions c_room c_gap c_places c_picked a_lot a_pieces a_mark a_byDistance, rI cI a_lot 48 c_lot, rI cI a_pieces 48 c_pieces, rI cI a_mark 48 c_mark] sz)) 0 0 (va_A [oX5 a0 c_lanes c_positions c_room c_gap c_places c_picked a_lot a_pieces a_mark a_byDistance, rI cI a_lot 48 c_lot, rI cI a_pieces 48 c_pieces, rI cI a_mark 48 c_mark] sz) := by
  refine Met.ofW (cc := cX5_scrapLot) (maxL := 4) (ret := (some .int)) (by decide) rfl ?_
  intro p e s m args below meth c s₁ B hml hv
  obtain ⟨rfl, hsz, hP, hK, hD0, hB0, hE⟩ := hv
  subst hsz
  have hx := B.exec
  have hb := B.bytes
  have hr := B.returns
  have hts := atoms_spec (ws := (wz yX5_scrapLot cX5_scrapLot 4 (some .int))) B.pre
  have hown : s.vm.findClass RX5 = some m.cls := findClass_of_methodNamed B.named
  have hlocks := B.notSynchronized
  have hD := hD0.self (sz := s.heap.size)
  have hAB : ∀ q : Nat, va_A [oX5 a0 c_lanes c_positions c_room c_gap c_places c_picked a_lot a_pieces a_mark a_byDistance, rI cI a_lot 48 c_lot, rI cI a_pieces 48 c_pieces, rI cI a_mark 48 c_mark] s.heap.size q → B0 ≤ q := va_A_B hD0 hB0
  generalize hAe : va_A [oX5 a0 c_lanes c_positions c_room c_gap c_places c_picked a_lot a_pieces a_mark a_byDistance, rI cI a_lot 48 c_lot, rI cI a_pieces 48 c_pieces, rI cI a_mark 48 c_mark] s.heap.size = A at hD hAB ⊢
  have hA : ∀ q : Nat, s.heap.size ≤ q → A q := fun q h => by rw [← hAe]; exact Or.inr h
  have hFa := hA
  have hS : va_S A s.heap s.heap [] := va_S.rf
  have hBn := fun (H : Heap) (locs : List Loc) (h : va_S A s.heap H locs) => Nat.le_trans hB0 h.1
  have hEn := fun (H : Heap) (locs : List Loc) (h : va_S A s.heap H locs) => gE_now hE h hAB
  have hl := lv_entry ([.ref a0, .int v1]) (n := 4) (Nat.le_of_ble_eq_true rfl)
  rw [lg_entry_eq]
  generalize (lg_sl ([.ref a0, .int v1]) ++ List.replicate (4 - (lg_sl ([.ref a0, .int v1])).length) Slot.unset).toArray = ls at hl ⊢
  have hl : lv_has ls 4 [(0, .ref a0), (1, .int v1)] := hl
  obtain ⟨H, hHe⟩ : ∃ H : Heap, H = s.heap := ⟨_, rfl⟩
  have hP : va_P D vwCl [oX5 a0 c_lanes c_positions c_room c_gap c_places c_picked a_lot a_pieces a_mark a_byDistance, rI cI a_lot 48 c_lot, rI cI a_pieces 48 c_pieces, rI cI a_mark 48 c_mark] H := by rw [hHe]; exact hP
  have hS : va_S A s.heap H [] := by rw [hHe]; exact hS
  refine W_heq hHe ?_
  unfold f_X5_scrapLot at hf
  refine gen_goW (fun WW hWW => ?_)
  have hL4 : ∀ (n : Nat) (n1 : Int32) (n2 : Int32) (n3 : Int32) (c_lot : Nat → Int32) (c_pieces : Nat → Int32) (c_mark : Nat → Int32) (e2 : Int32) (e_c_lot : Nat → Int32) (e_c_pieces : Nat → Int32) (e_c_mark : Nat → Int32), loop (fun z => f_X5_scrapLot_L4 n1 c_places z.1 z.2.1 z.2.2.1 z.2.2.2.1 z.2.2.2.2) n (n2, n3, c_lot, c_pieces, c_mark) = some (e2, e_c_lot, e_c_pieces, e_c_mark) → (∀ (H : Heap) (locs : List Loc) (ls : Array Slot), va_P D vwCl [oX5 a0 c_lanes c_positions c_room c_gap c_places c_picked a_lot a_pieces a_mark a_byDistance, rI cI a_lot 48 e_c_lot, rI cI a_pieces 48 e_c_pieces, rI cI a_mark 48 e_c_mark] H → va_D A [oX5 a0 c_lanes c_positions c_room c_gap c_places c_picked a_lot a_pieces a_mark a_byDistance, rI cI a_lot 48 e_c_lot, rI cI a_pieces 48 e_c_pieces, rI cI a_mark 48 e_c_mark] → va_S A s.heap H locs → lv_has ls 4 [(2, .int e2)] → WW H locs 0 0 (F0 m 44 ls [])) → ∀ (H : Heap) (locs : List Loc) (ls : Array Slot), va_P D vwCl [oX5 a0 c_lanes c_positions c_room c_gap c_places c_picked a_lot a_pieces a_mark a_byDistance, rI cI a_lot 48 c_lot, rI cI a_pieces 48 c_pieces, rI cI a_mark 48 c_mark] H → va_D A [oX5 a0 c_lanes c_positions c_room c_gap c_places c_picked a_lot a_pieces a_mark a_byDistance, rI cI a_lot 48 c_lot, rI cI a_pieces 48 c_pieces, rI cI a_mark 48 c_mark] → va_S A s.heap H locs → lv_has ls 4 [(0, .ref a0), (1, .int n1), (2, .int n2), (3, .int n3)] → WW H locs 0 0 (F0 m 4 ls []) := by
    intro n
    induction n with
    | zero =>
      intro n1 n2 n3 c_lot c_pieces c_mark e2 e_c_lot e_c_pieces e_c_mark hlp
      exact absurd hlp (by simp [loop])
    | succ n ih =>
      intro n1 n2 n3 c_lot c_pieces c_mark e2 e_c_lot e_c_pieces e_c_mark hlp K H locs ls hP hD hS hl
      obtain ⟨x9, hf, hlp⟩ := loop_s hlp
      have hf : f_X5_scrapLot_L4 n1 c_places n2 n3 c_lot c_pieces c_mark = some x9 := hf
      unfold f_X5_scrapLot_L4 at hf
      have hJ38 : ∀ (n2 : Int32) (n3 : Int32) (c_lot : Nat → Int32) (c_pieces : Nat → Int32) (c_mark : Nat → Int32), f_X5_scrapLot_L4_J38 n1 n2 n3 c_places c_lot c_pieces c_mark = some x9 → ∀ (H : Heap) (locs : List Loc) (ls : Array Slot), va_P D vwCl [oX5 a0 c_lanes c_positions c_room c_gap c_places c_picked a_lot a_pieces a_mark a_byDistance, rI cI a_lot 48 c_lot, rI cI a_pieces 48 c_pieces, rI cI a_mark 48 c_mark] H → va_D A [oX5 a0 c_lanes c_positions c_room c_gap c_places c_picked a_lot a_pieces a_mark a_byDistance, rI cI a_lot 48 c_lot, rI cI a_pieces 48 c_pieces, rI cI a_mark 48 c_mark] → va_S A s.heap H locs → lv_has ls 4 [(0, .ref a0), (1, .int n1), (2, .int n2), (3, .int n3)] → WW H locs 0 0 (F0 m 38 ls []) := by
        intro n2 n3 c_lot c_pieces c_mark hf H locs ls hP hD hS hl
        unfold f_X5_scrapLot_L4_J38 at hf
        refine (hWW _ _ _ _ _).mpr ?_
        refine lv_iinc (v := (n3 + 1)) (lv' := [(3, .int (n3 + 1)), (0, .ref a0), (1, .int n1), (2, .int n2)]) hx hb dX5_scrapLot_38 hl (k := 3) rfl rfl (by decide) rfl (fun ls hl => ?_)
        refine lv_goto (tgt := 4) hx hb dX5_scrapLot_41 (by decide) ?_
        obtain rfl := Option.some.inj hf
        exact (hWW _ _ _ _ _).mp (ih _ _ _ _ _ _ _ _ _ _ hlp K _ _ ls hP hD hS (lv_sub hl [1, 2, 3, 0] rfl))
      refine (hWW _ _ _ _ _).mpr ?_
      refine lv_iload_n hx hb dX5_scrapLot_4 rfl (lv_at hl 3 rfl) ?_
      refine lv_aload_n hx hb dX5_scrapLot_5 rfl (lv_at hl 0 rfl) ?_
      refine va_get (D := D) (ci := 4) (v := .int c_places) (C := RX5) (T := TX5) (N := 10) hx hb hts (fun w h => mb (iX5 w h)) hown hK hP 0 rfl rfl 4 (by decide) (hts _ (mb tb_53)) (fun _ h9 => h9) rfl dX5_scrapLot_6 ?_
      refine lv_icmp_ge (tgt := 44) hx hb dX5_scrapLot_9 (by decide) (fun h1 => ?_) (fun h1 => ?_)
      · have hf := ipos h1 hf
        obtain rfl := Option.some.inj hf
        cases lpx_r hlp
        exact (hWW _ _ _ _ _).mp (K _ _ ls hP hD hS (lv_sub hl [2] rfl))
      · have hf := ineg h1 hf
        refine lv_aload_n hx hb dX5_scrapLot_12 rfl (lv_at hl 0 rfl) ?_
        refine lv_iload_n hx hb dX5_scrapLot_13 rfl (lv_at hl 3 rfl) ?_
        refine lv_iload_n hx hb dX5_scrapLot_14 rfl (lv_at hl 1 rfl) ?_
        obtain ⟨r2, hc3, hf⟩ := ob1 hf
        refine ro_calli (r := r2) (va_runV (As := [.int n3, .int n1]) (rest := []) ⟨hx, hb, hml, hown, hts⟩ (k_X5_isWith l hl0 D cI cJ cZ cS B0 H a0 a_lot a_pieces a_mark a_byDistance c_lanes c_positions c_room c_gap c_places c_picked c_lot c_pieces n3 n1 r2 hc3) (cwV 2 hts (gV tb_585 tb_586 tb_587 tb_3 tb_588) rfl rfl rfl (by decide +kernel) ⟨Nat.le_of_ble_eq_true rfl, Nat.le_of_ble_eq_true rfl⟩) ⟨rp_blind, va_recv hK hP (ci := 4) (q0 := 0) rfl rfl, rp_pre (hP.sub [0, 1, 2] rfl) hK (hBn _ _ hS) (hEn _ _ hS)⟩ rfl rfl hl.1 rfl (lv_room (Nat.le_of_ble_eq_true rfl)) dX5_scrapLot_15 ⟨Nat.le_of_ble_eq_true rfl, Nat.le_of_ble_eq_true rfl⟩) ?_
        refine lv_if_eq (tgt := 38) hx hb dX5_scrapLot_18 (by decide) (fun h4 => ?_) (fun h4 => ?_)
        · have hf := ipos h4 hf
          exact (hWW _ _ _ _ _).mp (hJ38 _ _ _ _ _ hf _ _ ls hP hD hS (lv_sub hl [0, 1, 2, 3] rfl))
        · have hf := ineg h4 hf
          refine lv_iload_n hx hb dX5_scrapLot_21 rfl (lv_at hl 2 rfl) ?_
          refine lv_aload_n hx hb dX5_scrapLot_22 rfl (lv_at hl 0 rfl) ?_
          refine va_get (D := D) (ci := 4) (v := .ref a_pieces) (C := RX5) (T := TX5) (N := 10) hx hb hts (fun w h => mb (iX5 w h)) hown hK hP 0 rfl rfl 7 (by decide) (hts _ (mb tb_59)) (fun _ h9 => h9) rfl dX5_scrapLot_23 ?_
          refine lv_iload_n hx hb dX5_scrapLot_26 rfl (lv_at hl 3 rfl) ?_
          obtain ⟨h5, hf⟩ := ob_d hf
          refine va_iald hx hb hK hP 2 0 rfl rfl h5 dX5_scrapLot_27 ?_
          refine lv_iadd hx hb dX5_scrapLot_28 ?_
          refine lv_istore_n (lv' := [(2, .int (n2 + (c_pieces n3.toNatClampNeg))), (0, .ref a0), (1, .int n1), (3, .int n3)]) hx hb dX5_scrapLot_29 rfl hl (by decide) rfl (fun ls hl => ?_)
          refine lv_aload_n hx hb dX5_scrapLot_30 rfl (lv_at hl 1 rfl) ?_
          refine lv_iload_n hx hb dX5_scrapLot_31 rfl (lv_at hl 3 rfl) ?_
          refine lv_iconst (v := (-1)) hx hb dX5_scrapLot_32 (by decide) ?_
          refine lv_iconst (v := 0) hx hb dX5_scrapLot_33 (by decide) ?_
          refine lv_iconst (v := 5) hx hb dX5_scrapLot_34 (by decide) ?_
          obtain ⟨o8, o9, o10, hc7, hf⟩ := ob3 hf
          refine rw_callv (va_runV (As := [.int n3, .int (-1), .int 0, .int 5]) (rest := []) ⟨hx, hb, hml, hown, hts⟩ (k_X5_set l hl0 D cI cJ cZ cS B0 H.size a0 a_lot a_pieces a_mark a_byDistance c_lanes c_positions c_room c_gap c_places c_picked c_lot c_pieces c_mark n3 (-1) 0 5 o8 o9 o10 hc7) (cwV 4 hts (gV tb_259 tb_260 tb_261 tb_3 tb_262) rfl rfl rfl (by decide +kernel) ⟨Nat.le_of_ble_eq_true rfl, Nat.le_of_ble_eq_true rfl⟩) ⟨wp_blind, va_recv hK hP (ci := 4) (q0 := 0) rfl rfl, wp_pre (hP.sub [0, 1, 2, 3] rfl) hK (va_D.sub (hD.weaken (fun _ _ _ h9 => hAB _ h9)) [0, 1, 2, 3] rfl rfl) (hBn _ _ hS) (hEn _ _ hS)⟩ rfl rfl hl.1 rfl (lv_room (Nat.le_of_ble_eq_true rfl)) dX5_scrapLot_35 ⟨Nat.le_of_ble_eq_true rfl, Nat.le_of_ble_eq_true rfl⟩) hP hD hS hA [oX5 a0 c_lanes c_positions c_room c_gap c_places c_picked a_lot a_pieces a_mark a_byDistance, rI cI a_lot 48 o8, rI cI a_pieces 48 o9, rI cI a_mark 48 o10] 4 [0, 1, 2, 3] [] rfl rfl rfl rfl (by decide +kernel) rfl (fun H locs hP hD hS => ?_)
          exact (hWW _ _ _ _ _).mp (hJ38 _ _ _ _ _ hf _ _ ls hP hD hS (lv_sub hl [1, 2, 0, 3] rfl))
  refine (hWW _ _ _ _ _).mpr ?_
  refine lv_iconst (v := 0) hx hb dX5_scrapLot_0 (by decide) ?_
  refine lv_istore_n (lv' := [(2, .int 0), (0, .ref a0), (1, .int v1)]) hx hb dX5_scrapLot_1 rfl hl (by decide) rfl (fun ls hl => ?_)
  refine lv_iconst (v := 0) hx hb dX5_scrapLot_2 (by decide) ?_
  refine lv_istore_n (lv' := [(3, .int 0), (2, .int 0), (0, .ref a0), (1, .int v1)]) hx hb dX5_scrapLot_3 rfl hl (by decide) rfl (fun ls hl => ?_)
  obtain ⟨m12, c13, c14, c15, hc11, hf⟩ := ob4 hf
  refine (hWW _ _ _ _ _).mp (hL4 fu _ _ _ _ _ _ _ _ _ _ hc11 (fun H locs ls hP hD hS hl => ?_) _ _ ls hP hD hS (lv_sub hl [2, 3, 1, 0] rfl))
  · refine (hWW _ _ _ _ _).mpr ?_
    refine lv_iload_n hx hb dX5_scrapLot_44 rfl (lv_at hl 0 rfl) ?_
    cases hf
    refine W.widen (k := 0) (n := 0) (Nat.le_of_ble_eq_true rfl) (Nat.le_of_ble_eq_true rfl) ?_
    exact W.iret hx hb hr (fun t ht hW => ⟨⟨_, (), rfl, rfl, (by show va_P D vwCl _ t.heap; rw [ht]; exact hP)⟩, hS.F ht⟩) hS.2.2 dX5_scrapLot_45
def f_X5_copyFrom (c_lanes : Int32) (c_positions : Int32) (c_room : Int32) (c_gap : Int32) (c_places : Int32) (c_picked : Int64) (c_lot : Nat → Int32) (c_pieces : Nat → Int32) (c_mark : Nat → Int32) (c_byDistance : Nat → Int32) (cp1_lanes : Int32) (cp1_positions : Int32) (cp1_room : Int32) (cp1_gap : Int32) (cp1_places : Int32) (cp1_picked : Int64) (cp1_lot : Nat → Int32) (cp1_pieces : Nat → Int32) (cp1_mark : Nat → Int32) (cp1_byDistance : Nat → Int32) : Option (Int32 × Int32 × Int32 × Int32 × Int32 × Int64 × (Nat → Int32) × (Nat → Int32) × (Nat → Int32) × (Nat → Int32)) :=
  some (cp1_lanes, cp1_positions, cp1_room, cp1_gap, cp1_places, cp1_picked, va_cpy cp1_lot c_lot (0 : Int32).toNatClampNeg (0 : Int32).toNatClampNeg (48 : Int32).toNatClampNeg, va_cpy cp1_pieces c_pieces (0 : Int32).toNatClampNeg (0 : Int32).toNatClampNeg (48 : Int32).toNatClampNeg, va_cpy cp1_mark c_mark (0 : Int32).toNatClampNeg (0 : Int32).toNatClampNeg (48 : Int32).toNatClampNeg, va_cpy cp1_byDistance c_byDistance (0 : Int32).toNatClampNeg (0 : Int32).toNatClampNeg (48 : Int32).toNatClampNeg)
set_option maxHeartbeats 4000000 in
set_option maxRecDepth 100000 in
theorem k_X5_copyFrom (l : Launch) (hl0 : l.stackTraces = false) (D : va_G) (cI cJ cZ cS : ClassId) (B0 : Nat) (sz : Nat) (a0 a_lot a_pieces a_mark a_byDistance ap1 ap1_lot ap1_pieces ap1_mark ap1_byDistance : Nat) (c_lanes : Int32) (c_positions : Int32) (c_room : Int32) (c_gap : Int32) (c_places : Int32) (c_picked : Int64) (c_lot : Nat → Int32) (c_pieces : Nat → Int32) (c_mark : Nat → Int32) (c_byDistance : Nat → Int32) (cp1_lanes : Int32) (cp1_positions : Int32) (cp1_room : Int32) (cp1_gap : Int32) (cp1_places : Int32) (cp1_picked : Int64) (cp1_lot : Nat → Int32) (cp1_pieces : Nat → Int32) (cp1_mark : Nat → Int32) (cp1_byDistance : Nat → Int32) (oc_lanes : Int32) (oc_positions : Int32) (oc_room : Int32) (oc_gap : Int32) (oc_places : Int32) (oc_picked : Int64) (oc_lot : Nat → Int32) (oc_pieces : Nat → Int32) (oc_mark : Nat → Int32) (oc_byDistance : Nat → Int32)  (hf : f_X5_copyFrom c_lanes c_positions c_room c_gap c_places c_picked c_lot c_pieces c_mark c_byDistance cp1_lanes cp1_positions cp1_room cp1_gap cp1_places cp1_picked cp1_lot cp1_pieces cp1_mark cp1_byDistance = some (oc_lanes, oc_positions, oc_room, oc_gap, oc_places, oc_picked, oc_lot, oc_pieces, oc_mark, oc_byDistance)) : Met l yX5_copyFrom (wz yX5_copyFrom cX5_copyFrom 2 none) ({ frames := 1, cells := 0, slots := 0, locals := 40 }) (va_Pc [.ref a0, .ref ap1] (wp D cI cJ cZ cS B0 [oX5 a0 c_lanes c_positions c_room c_gap c_places c_picked a_lot a_pieces a_mark a_byDistance, rI cI a_lot 48 c_lot, rI cI a_pieces 48 c_pieces, rI cI a_mark 48 c_mark, rI cI a_byDistance 48 c_byDistance, oX5 ap1 cp1_lanes cp1_positions cp1_room cp1_gap cp1_places cp1_picked ap1_lot ap1_pieces ap1_mark ap1_byDistance, rI cI ap1_lot 48 cp1_lot, rI cI ap1_pieces 48 cp1_pieces, rI cI ap1_mark 48 cp1_mark, rI cI ap1_byDistance 48 cp1_byDistance] sz)) (va_Qv (fun (_ : Unit) => True) (fun _ t => va_P D vwCl [oX5 a0 oc_lanes oc_positions oc_room oc_gap oc_places oc_picked a_lot a_pieces a_mark a_byDistance, rI cI a_lot 48 oc_lot, rI cI a_pieces 48 oc_pieces, rI cI a_mark 48 oc_mark, rI cI a_byDistance 48 oc_byDistance, oX5 ap1 cp1_lanes cp1_positions cp1_room cp1_gap cp1_places cp1_picked ap1_lot ap1_pieces ap1_mark ap1_byDistance, rI cI ap1_lot 48 cp1_lot, rI cI ap1_pieces 48 cp1_pieces, rI cI ap1_mark 48 cp1_mark, rI cI ap1_byDistance 48 cp1_byDistance] t.heap) (va_A [oX5 a0 c_lanes c_positions c_room c_gap c_places c_picked a_lot a_pieces a_mark a_byDistance, rI cI a_lot 48 c_lot, rI cI a_pieces 48 c_pieces, rI cI a_mark 48 c_mark, rI cI a_byDistance 48 c_byDistance, oX5 ap1 cp1_lanes cp1_positions cp1_room cp1_gap cp1_places cp1_picked ap1_lot ap1_pieces ap1_mark ap1_byDistance, rI cI ap1_lot 48 cp1_lot, rI cI ap1_pieces 48 cp1_pieces, rI cI ap1_mark 48 cp1_mark, rI cI ap1_byDistance 48 cp1_byDistance] sz)) 0 0 (va_A [oX5 a0 c_lanes c_positions c_room c_gap c_places c_picked a_lot a_pieces a_mark a_byDistance, rI cI a_lot 48 c_lot, rI cI a_pieces 48 c_pieces, rI cI a_mark 48 c_mark, rI cI a_byDistance 48 c_byDistance, oX5 ap1 cp1_lanes cp1_positions cp1_room cp1_gap cp1_places cp1_picked ap1_lot ap1_pieces ap1_mark ap1_byDistance, rI cI ap1_lot 48 cp1_lot, rI cI ap1_pieces 48 cp1_pieces, rI cI ap1_mark 48 cp1_mark, rI cI ap1_byDistance 48 cp1_byDistance] sz) := by
  refine Met.ofW (cc := cX5_copyFrom) (maxL := 2) (ret := none) (by decide) rfl ?_
  intro p e s m args below meth c s₁ B hml hv
  obtain ⟨rfl, hsz, hP, hK, hD0, hB0, hE⟩ := hv
  subst hsz
  have hx := B.exec
  have hb := B.bytes
  have hr := B.returns
  have hts := atoms_spec (ws := (wz yX5_copyFrom cX5_copyFrom 2 none)) B.pre
  have hown : s.vm.findClass RX5 = some m.cls := findClass_of_methodNamed B.named
  have hlocks := B.notSynchronized
  have hD := hD0.self (sz := s.heap.size)
  have hAB : ∀ q : Nat, va_A [oX5 a0 c_lanes c_positions c_room c_gap c_places c_picked a_lot a_pieces a_mark a_byDistance, rI cI a_lot 48 c_lot, rI cI a_pieces 48 c_pieces, rI cI a_mark 48 c_mark, rI cI a_byDistance 48 c_byDistance, oX5 ap1 cp1_lanes cp1_positions cp1_room cp1_gap cp1_places cp1_picked ap1_lot ap1_pieces ap1_mark ap1_byDistance, rI cI ap1_lot 48 cp1_lot, rI cI ap1_pieces 48 cp1_pieces, rI cI ap1_mark 48 cp1_mark, rI cI ap1_byDistance 48 cp1_byDistance] s.heap.size q → B0 ≤ q := va_A_B hD0 hB0
  generalize hAe : va_A [oX5 a0 c_lanes c_positions c_room c_gap c_places c_picked a_lot a_pieces a_mark a_byDistance, rI cI a_lot 48 c_lot, rI cI a_pieces 48 c_pieces, rI cI a_mark 48 c_mark, rI cI a_byDistance 48 c_byDistance, oX5 ap1 cp1_lanes cp1_positions cp1_room cp1_gap cp1_places cp1_picked ap1_lot ap1_pieces ap1_mark ap1_byDistance, rI cI ap1_lot 48 cp1_lot, rI cI ap1_pieces 48 cp1_pieces, rI cI ap1_mark 48 cp1_mark, rI cI ap1_byDistance 48 cp1_byDistance] s.heap.size = A at hD hAB ⊢
  have hA : ∀ q : Nat, s.heap.size ≤ q → A q := fun q h => by rw [← hAe]; exact Or.inr h
  have hFa := hA
  have hS : va_S A s.heap s.heap [] := va_S.rf
  have hBn := fun (H : Heap) (locs : List Loc) (h : va_S A s.heap H locs) => Nat.le_trans hB0 h.1
  have hEn := fun (H : Heap) (locs : List Loc) (h : va_S A s.heap H locs) => gE_now hE h hAB
  have hl := lv_entry ([.ref a0, .ref ap1]) (n := 2) (Nat.le_of_ble_eq_true rfl)
  rw [lg_entry_eq]
  generalize (lg_sl ([.ref a0, .ref ap1]) ++ List.replicate (2 - (lg_sl ([.ref a0, .ref ap1])).length) Slot.unset).toArray = ls at hl ⊢
  have hl : lv_has ls 2 [(0, .ref a0), (1, .ref ap1)] := hl
  obtain ⟨H, hHe⟩ : ∃ H : Heap, H = s.heap := ⟨_, rfl⟩
  have hP : va_P D vwCl [oX5 a0 c_lanes c_positions c_room c_gap c_places c_picked a_lot a_pieces a_mark a_byDistance, rI cI a_lot 48 c_lot, rI cI a_pieces 48 c_pieces, rI cI a_mark 48 c_mark, rI cI a_byDistance 48 c_byDistance, oX5 ap1 cp1_lanes cp1_positions cp1_room cp1_gap cp1_places cp1_picked ap1_lot ap1_pieces ap1_mark ap1_byDistance, rI cI ap1_lot 48 cp1_lot, rI cI ap1_pieces 48 cp1_pieces, rI cI ap1_mark 48 cp1_mark, rI cI ap1_byDistance 48 cp1_byDistance] H := by rw [hHe]; exact hP
  have hS : va_S A s.heap H [] := by rw [hHe]; exact hS
  refine W_heq hHe ?_
  unfold f_X5_copyFrom at hf
  refine lv_aload_n hx hb dX5_copyFrom_0 rfl (lv_at hl 0 rfl) ?_
  refine lv_aload_n hx hb dX5_copyFrom_1 rfl (lv_at hl 1 rfl) ?_
  refine va_get (D := D) (ci := 4) (v := .int cp1_lanes) (C := RX5) (T := TX5) (N := 10) hx hb hts (fun w h => mb (iX5 w h)) hown hK hP 5 rfl rfl 0 (by decide) (hts _ (mb tb_45)) (fun _ h9 => h9) rfl dX5_copyFrom_2 ?_
  refine va_put (D := D) (ci := 4) (v := .int cp1_lanes) (ty := .int) (C := RX5) (T := TX5) (N := 10) hx hb hts (fun w h => mb (iX5 w h)) tyX5 tyX5_ok nmX5 hown hK hP hD hS 0 rfl rfl 0 (by decide) (hts _ (mb tb_45)) (fun _ h9 => h9) rfl (by decide +kernel) rfl rfl (Nat.le_of_ble_eq_true rfl) dX5_copyFrom_5 (fun H locs hP hD hS => ?_)
  have hP : va_P D vwCl [oX5 a0 cp1_lanes c_positions c_room c_gap c_places c_picked a_lot a_pieces a_mark a_byDistance, rI cI a_lot 48 c_lot, rI cI a_pieces 48 c_pieces, rI cI a_mark 48 c_mark, rI cI a_byDistance 48 c_byDistance, oX5 ap1 cp1_lanes cp1_positions cp1_room cp1_gap cp1_places cp1_picked ap1_lot ap1_pieces ap1_mark ap1_byDistance, rI cI ap1_lot 48 cp1_lot, rI cI ap1_pieces 48 cp1_pieces, rI cI ap1_mark 48 cp1_mark, rI cI ap1_byDistance 48 cp1_byDistance] H := hP
  have hD : va_D A [oX5 a0 cp1_lanes c_positions c_room c_gap c_places c_picked a_lot a_pieces a_mark a_byDistance, rI cI a_lot 48 c_lot, rI cI a_pieces 48 c_pieces, rI cI a_mark 48 c_mark, rI cI a_byDistance 48 c_byDistance, oX5 ap1 cp1_lanes cp1_positions cp1_room cp1_gap cp1_places cp1_picked ap1_lot ap1_pieces ap1_mark ap1_byDistance, rI cI ap1_lot 48 cp1_lot, rI cI ap1_pieces 48 cp1_pieces, rI cI ap1_mark 48 cp1_mark, rI cI ap1_byDistance 48 cp1_byDistance] := hD
  refine lv_aload_n hx hb dX5_copyFrom_8 rfl (lv_at hl 0 rfl) ?_
  refine lv_aload_n hx hb dX5_copyFrom_9 rfl (lv_at hl 1 rfl) ?_
  refine va_get (D := D) (ci := 4) (v := .int cp1_positions) (C := RX5) (T := TX5) (N := 10) hx hb hts (fun w h => mb (iX5 w h)) hown hK hP 5 rfl rfl 1 (by decide) (hts _ (mb tb_47)) (fun _ h9 => h9) rfl dX5_copyFrom_10 ?_
  refine va_put (D := D) (ci := 4) (v := .int cp1_positions) (ty := .int) (C := RX5) (T := TX5) (N := 10) hx hb hts (fun w h => mb (iX5 w h)) tyX5 tyX5_ok nmX5 hown hK hP hD hS 0 rfl rfl 1 (by decide) (hts _ (mb tb_47)) (fun _ h9 => h9) rfl (by decide +kernel) rfl rfl (Nat.le_of_ble_eq_true rfl) dX5_copyFrom_13 (fun H locs hP hD hS => ?_)
  have hP : va_P D vwCl [oX5 a0 cp1_lanes cp1_positions c_room c_gap c_places c_picked a_lot a_pieces a_mark a_byDistance, rI cI a_lot 48 c_lot, rI cI a_pieces 48 c_pieces, rI cI a_mark 48 c_mark, rI cI a_byDistance 48 c_byDistance, oX5 ap1 cp1_lanes cp1_positions cp1_room cp1_gap cp1_places cp1_picked ap1_lot ap1_pieces ap1_mark ap1_byDistance, rI cI ap1_lot 48 cp1_lot, rI cI ap1_pieces 48 cp1_pieces, rI cI ap1_mark 48 cp1_mark, rI cI ap1_byDistance 48 cp1_byDistance] H := hP
  have hD : va_D A [oX5 a0 cp1_lanes cp1_positions c_room c_gap c_places c_picked a_lot a_pieces a_mark a_byDistance, rI cI a_lot 48 c_lot, rI cI a_pieces 48 c_pieces, rI cI a_mark 48 c_mark, rI cI a_byDistance 48 c_byDistance, oX5 ap1 cp1_lanes cp1_positions cp1_room cp1_gap cp1_places cp1_picked ap1_lot ap1_pieces ap1_mark ap1_byDistance, rI cI ap1_lot 48 cp1_lot, rI cI ap1_pieces 48 cp1_pieces, rI cI ap1_mark 48 cp1_mark, rI cI ap1_byDistance 48 cp1_byDistance] := hD
  refine lv_aload_n hx hb dX5_copyFrom_16 rfl (lv_at hl 0 rfl) ?_
  refine lv_aload_n hx hb dX5_copyFrom_17 rfl (lv_at hl 1 rfl) ?_
  refine va_get (D := D) (ci := 4) (v := .int cp1_room) (C := RX5) (T := TX5) (N := 10) hx hb hts (fun w h => mb (iX5 w h)) hown hK hP 5 rfl rfl 2 (by decide) (hts _ (mb tb_49)) (fun _ h9 => h9) rfl dX5_copyFrom_18 ?_
  refine va_put (D := D) (ci := 4) (v := .int cp1_room) (ty := .int) (C := RX5) (T := TX5) (N := 10) hx hb hts (fun w h => mb (iX5 w h)) tyX5 tyX5_ok nmX5 hown hK hP hD hS 0 rfl rfl 2 (by decide) (hts _ (mb tb_49)) (fun _ h9 => h9) rfl (by decide +kernel) rfl rfl (Nat.le_of_ble_eq_true rfl) dX5_copyFrom_21 (fun H locs hP hD hS => ?_)
  have hP : va_P D vwCl [oX5 a0 cp1_lanes cp1_positions cp1_room c_gap c_places c_picked a_lot a_pieces a_mark a_byDistance, rI cI a_lot 48 c_lot, rI cI a_pieces 48 c_pieces, rI cI a_mark 48 c_mark, rI cI a_byDistance 48 c_byDistance, oX5 ap1 cp1_lanes cp1_positions cp1_room cp1_gap cp1_places cp1_picked ap1_lot ap1_pieces ap1_mark ap1_byDistance, rI cI ap1_lot 48 cp1_lot, rI cI ap1_pieces 48 cp1_pieces, rI cI ap1_mark 48 cp1_mark, rI cI ap1_byDistance 48 cp1_byDistance] H := hP
  have hD : va_D A [oX5 a0 cp1_lanes cp1_positions cp1_room c_gap c_places c_picked a_lot a_pieces a_mark a_byDistance, rI cI a_lot 48 c_lot, rI cI a_pieces 48 c_pieces, rI cI a_mark 48 c_mark, rI cI a_byDistance 48 c_byDistance, oX5 ap1 cp1_lanes cp1_positions cp1_room cp1_gap cp1_places cp1_picked ap1_lot ap1_pieces ap1_mark ap1_byDistance, rI cI ap1_lot 48 cp1_lot, rI cI ap1_pieces 48 cp1_pieces, rI cI ap1_mark 48 cp1_mark, rI cI ap1_byDistance 48 cp1_byDistance] := hD
  refine lv_aload_n hx hb dX5_copyFrom_24 rfl (lv_at hl 0 rfl) ?_
  refine lv_aload_n hx hb dX5_copyFrom_25 rfl (lv_at hl 1 rfl) ?_
  refine va_get (D := D) (ci := 4) (v := .int cp1_gap) (C := RX5) (T := TX5) (N := 10) hx hb hts (fun w h => mb (iX5 w h)) hown hK hP 5 rfl rfl 3 (by decide) (hts _ (mb tb_51)) (fun _ h9 => h9) rfl dX5_copyFrom_26 ?_
  refine va_put (D := D) (ci := 4) (v := .int cp1_gap) (ty := .int) (C := RX5) (T := TX5) (N := 10) hx hb hts (fun w h => mb (iX5 w h)) tyX5 tyX5_ok nmX5 hown hK hP hD hS 0 rfl rfl 3 (by decide) (hts _ (mb tb_51)) (fun _ h9 => h9) rfl (by decide +kernel) rfl rfl (Nat.le_of_ble_eq_true rfl) dX5_copyFrom_29 (fun H locs hP hD hS => ?_)
  have hP : va_P D vwCl [oX5 a0 cp1_lanes cp1_positions cp1_room cp1_gap c_places c_picked a_lot a_pieces a_mark a_byDistance, rI cI a_lot 48 c_lot, rI cI a_pieces 48 c_pieces, rI cI a_mark 48 c_mark, rI cI a_byDistance 48 c_byDistance, oX5 ap1 cp1_lanes cp1_positions cp1_room cp1_gap cp1_places cp1_picked ap1_lot ap1_pieces ap1_mark ap1_byDistance, rI cI ap1_lot 48 cp1_lot, rI cI ap1_pieces 48 cp1_pieces, rI cI ap1_mark 48 cp1_mark, rI cI ap1_byDistance 48 cp1_byDistance] H := hP
  have hD : va_D A [oX5 a0 cp1_lanes cp1_positions cp1_room cp1_gap c_places c_picked a_lot a_pieces a_mark a_byDistance, rI cI a_lot 48 c_lot, rI cI a_pieces 48 c_pieces, rI cI a_mark 48 c_mark, rI cI a_byDistance 48 c_byDistance, oX5 ap1 cp1_lanes cp1_positions cp1_room cp1_gap cp1_places cp1_picked ap1_lot ap1_pieces ap1_mark ap1_byDistance, rI cI ap1_lot 48 cp1_lot, rI cI ap1_pieces 48 cp1_pieces, rI cI ap1_mark 48 cp1_mark, rI cI ap1_byDistance 48 cp1_byDistance] := hD
  refine lv_aload_n hx hb dX5_copyFrom_32 rfl (lv_at hl 0 rfl) ?_
  refine lv_aload_n hx hb dX5_copyFrom_33 rfl (lv_at hl 1 rfl) ?_
  refine va_get (D := D) (ci := 4) (v := .int cp1_places) (C := RX5) (T := TX5) (N := 10) hx hb hts (fun w h => mb (iX5 w h)) hown hK hP 5 rfl rfl 4 (by decide) (hts _ (mb tb_53)) (fun _ h9 => h9) rfl dX5_copyFrom_34 ?_
  refine va_put (D := D) (ci := 4) (v := .int cp1_places) (ty := .int) (C := RX5) (T := TX5) (N := 10) hx hb hts (fun w h => mb (iX5 w h)) tyX5 tyX5_ok nmX5 hown hK hP hD hS 0 rfl rfl 4 (by decide) (hts _ (mb tb_53)) (fun _ h9 => h9) rfl (by decide +kernel) rfl rfl (Nat.le_of_ble_eq_true rfl) dX5_copyFrom_37 (fun H locs hP hD hS => ?_)
  have hP : va_P D vwCl [oX5 a0 cp1_lanes cp1_positions cp1_room cp1_gap cp1_places c_picked a_lot a_pieces a_mark a_byDistance, rI cI a_lot 48 c_lot, rI cI a_pieces 48 c_pieces, rI cI a_mark 48 c_mark, rI cI a_byDistance 48 c_byDistance, oX5 ap1 cp1_lanes cp1_positions cp1_room cp1_gap cp1_places cp1_picked ap1_lot ap1_pieces ap1_mark ap1_byDistance, rI cI ap1_lot 48 cp1_lot, rI cI ap1_pieces 48 cp1_pieces, rI cI ap1_mark 48 cp1_mark, rI cI ap1_byDistance 48 cp1_byDistance] H := hP
  have hD : va_D A [oX5 a0 cp1_lanes cp1_positions cp1_room cp1_gap cp1_places c_picked a_lot a_pieces a_mark a_byDistance, rI cI a_lot 48 c_lot, rI cI a_pieces 48 c_pieces, rI cI a_mark 48 c_mark, rI cI a_byDistance 48 c_byDistance, oX5 ap1 cp1_lanes cp1_positions cp1_room cp1_gap cp1_places cp1_picked ap1_lot ap1_pieces ap1_mark ap1_byDistance, rI cI ap1_lot 48 cp1_lot, rI cI ap1_pieces 48 cp1_pieces, rI cI ap1_mark 48 cp1_mark, rI cI ap1_byDistance 48 cp1_byDistance] := hD
  refine lv_aload_n hx hb dX5_copyFrom_40 rfl (lv_at hl 0 rfl) ?_
  refine lv_aload_n hx hb dX5_copyFrom_41 rfl (lv_at hl 1 rfl) ?_
  refine va_get (D := D) (ci := 4) (v := .long cp1_picked) (C := RX5) (T := TX5) (N := 10) hx hb hts (fun w h => mb (iX5 w h)) hown hK hP 5 rfl rfl 5 (by decide) (hts _ (mb tb_55)) (fun _ h9 => h9) rfl dX5_copyFrom_42 ?_
  refine va_put (D := D) (ci := 4) (v := .long cp1_picked) (ty := .long) (C := RX5) (T := TX5) (N := 10) hx hb hts (fun w h => mb (iX5 w h)) tyX5 tyX5_ok nmX5 hown hK hP hD hS 0 rfl rfl 5 (by decide) (hts _ (mb tb_55)) (fun _ h9 => h9) rfl (by decide +kernel) rfl rfl (Nat.le_of_ble_eq_true rfl) dX5_copyFrom_45 (fun H locs hP hD hS => ?_)
  have hP : va_P D vwCl [oX5 a0 cp1_lanes cp1_positions cp1_room cp1_gap cp1_places cp1_picked a_lot a_pieces a_mark a_byDistance, rI cI a_lot 48 c_lot, rI cI a_pieces 48 c_pieces, rI cI a_mark 48 c_mark, rI cI a_byDistance 48 c_byDistance, oX5 ap1 cp1_lanes cp1_positions cp1_room cp1_gap cp1_places cp1_picked ap1_lot ap1_pieces ap1_mark ap1_byDistance, rI cI ap1_lot 48 cp1_lot, rI cI ap1_pieces 48 cp1_pieces, rI cI ap1_mark 48 cp1_mark, rI cI ap1_byDistance 48 cp1_byDistance] H := hP
  have hD : va_D A [oX5 a0 cp1_lanes cp1_positions cp1_room cp1_gap cp1_places cp1_picked a_lot a_pieces a_mark a_byDistance, rI cI a_lot 48 c_lot, rI cI a_pieces 48 c_pieces, rI cI a_mark 48 c_mark, rI cI a_byDistance 48 c_byDistance, oX5 ap1 cp1_lanes cp1_positions cp1_room cp1_gap cp1_places cp1_picked ap1_lot ap1_pieces ap1_mark ap1_byDistance, rI cI ap1_lot 48 cp1_lot, rI cI ap1_pieces 48 cp1_pieces, rI cI ap1_mark 48 cp1_mark, rI cI ap1_byDistance 48 cp1_byDistance] := hD
  refine lv_aload_n hx hb dX5_copyFrom_48 rfl (lv_at hl 1 rfl) ?_
  refine va_get (D := D) (ci := 4) (v := .ref ap1_lot) (C := RX5) (T := TX5) (N := 10) hx hb hts (fun w h => mb (iX5 w h)) hown hK hP 5 rfl rfl 6 (by decide) (hts _ (mb tb_57)) (fun _ h9 => h9) rfl dX5_copyFrom_49 ?_
  refine lv_iconst (v := 0) hx hb dX5_copyFrom_52 (by decide) ?_
  refine lv_aload_n hx hb dX5_copyFrom_53 rfl (lv_at hl 0 rfl) ?_
  refine va_get (D := D) (ci := 4) (v := .ref a_lot) (C := RX5) (T := TX5) (N := 10) hx hb hts (fun w h => mb (iX5 w h)) hown hK hP 0 rfl rfl 6 (by decide) (hts _ (mb tb_57)) (fun _ h9 => h9) rfl dX5_copyFrom_54 ?_
  refine lv_iconst (v := 0) hx hb dX5_copyFrom_57 (by decide) ?_
  refine lv_aload_n hx hb dX5_copyFrom_58 rfl (lv_at hl 0 rfl) ?_
  refine va_get (D := D) (ci := 4) (v := .ref a_lot) (C := RX5) (T := TX5) (N := 10) hx hb hts (fun w h => mb (iX5 w h)) hown hK hP 0 rfl rfl 6 (by decide) (hts _ (mb tb_57)) (fun _ h9 => h9) rfl dX5_copyFrom_59 ?_
  refine va_alen (v := 48) hx hb hK hP 1 0 rfl rfl rfl dX5_copyFrom_62 ?_
  refine va_copyi (ty := .int) hx hb (hml.trans hl.1.symm) hown (hts _ (mb tb_440)) (hts _ (mb tb_435)) (hts _ (mb tb_434)) (hts _ (mb tb_14)) hK hP hD hS 6 1 0 0 rfl rfl rfl rfl rfl (by decide) (by decide) (by decide) (by decide) (by decide) (fun _ _ => rfl) (Nat.le_of_ble_eq_true rfl) (Nat.le_of_ble_eq_true rfl) dX5_copyFrom_63 (fun H locs hP hD hS => ?_)
  have hP : va_P D vwCl [oX5 a0 cp1_lanes cp1_positions cp1_room cp1_gap cp1_places cp1_picked a_lot a_pieces a_mark a_byDistance, rI cI a_lot 48 (va_cpy cp1_lot c_lot (0 : Int32).toNatClampNeg (0 : Int32).toNatClampNeg (48 : Int32).toNatClampNeg), rI cI a_pieces 48 c_pieces, rI cI a_mark 48 c_mark, rI cI a_byDistance 48 c_byDistance, oX5 ap1 cp1_lanes cp1_positions cp1_room cp1_gap cp1_places cp1_picked ap1_lot ap1_pieces ap1_mark ap1_byDistance, rI cI ap1_lot 48 cp1_lot, rI cI ap1_pieces 48 cp1_pieces, rI cI ap1_mark 48 cp1_mark, rI cI ap1_byDistance 48 cp1_byDistance] H := hP
  have hD : va_D A [oX5 a0 cp1_lanes cp1_positions cp1_room cp1_gap cp1_places cp1_picked a_lot a_pieces a_mark a_byDistance, rI cI a_lot 48 (va_cpy cp1_lot c_lot (0 : Int32).toNatClampNeg (0 : Int32).toNatClampNeg (48 : Int32).toNatClampNeg), rI cI a_pieces 48 c_pieces, rI cI a_mark 48 c_mark, rI cI a_byDistance 48 c_byDistance, oX5 ap1 cp1_lanes cp1_positions cp1_room cp1_gap cp1_places cp1_picked ap1_lot ap1_pieces ap1_mark ap1_byDistance, rI cI ap1_lot 48 cp1_lot, rI cI ap1_pieces 48 cp1_pieces, rI cI ap1_mark 48 cp1_mark, rI cI ap1_byDistance 48 cp1_byDistance] := hD
  refine lv_aload_n hx hb dX5_copyFrom_66 rfl (lv_at hl 1 rfl) ?_
  refine va_get (D := D) (ci := 4) (v := .ref ap1_pieces) (C := RX5) (T := TX5) (N := 10) hx hb hts (fun w h => mb (iX5 w h)) hown hK hP 5 rfl rfl 7 (by decide) (hts _ (mb tb_59)) (fun _ h9 => h9) rfl dX5_copyFrom_67 ?_
  refine lv_iconst (v := 0) hx hb dX5_copyFrom_70 (by decide) ?_
  refine lv_aload_n hx hb dX5_copyFrom_71 rfl (lv_at hl 0 rfl) ?_
  refine va_get (D := D) (ci := 4) (v := .ref a_pieces) (C := RX5) (T := TX5) (N := 10) hx hb hts (fun w h => mb (iX5 w h)) hown hK hP 0 rfl rfl 7 (by decide) (hts _ (mb tb_59)) (fun _ h9 => h9) rfl dX5_copyFrom_72 ?_
  refine lv_iconst (v := 0) hx hb dX5_copyFrom_75 (by decide) ?_
  refine lv_aload_n hx hb dX5_copyFrom_76 rfl (lv_at hl 0 rfl) ?_
  refine va_get (D := D) (ci := 4) (v := .ref a_pieces) (C := RX5) (T := TX5) (N := 10) hx hb hts (fun w h => mb (iX5 w h)) hown hK hP 0 rfl rfl 7 (by decide) (hts _ (mb tb_59)) (fun _ h9 => h9) rfl dX5_copyFrom_77 ?_
  refine va_alen (v := 48) hx hb hK hP 2 0 rfl rfl rfl dX5_copyFrom_80 ?_
  refine va_copyi (ty := .int) hx hb (hml.trans hl.1.symm) hown (hts _ (mb tb_440)) (hts _ (mb tb_435)) (hts _ (mb tb_434)) (hts _ (mb tb_14)) hK hP hD hS 7 2 0 0 rfl rfl rfl rfl rfl (by decide) (by decide) (by decide) (by decide) (by decide) (fun _ _ => rfl) (Nat.le_of_ble_eq_true rfl) (Nat.le_of_ble_eq_true rfl) dX5_copyFrom_81 (fun H locs hP hD hS => ?_)
  have hP : va_P D vwCl [oX5 a0 cp1_lanes cp1_positions cp1_room cp1_gap cp1_places cp1_picked a_lot a_pieces a_mark a_byDistance, rI cI a_lot 48 (va_cpy cp1_lot c_lot (0 : Int32).toNatClampNeg (0 : Int32).toNatClampNeg (48 : Int32).toNatClampNeg), rI cI a_pieces 48 (va_cpy cp1_pieces c_pieces (0 : Int32).toNatClampNeg (0 : Int32).toNatClampNeg (48 : Int32).toNatClampNeg), rI cI a_mark 48 c_mark, rI cI a_byDistance 48 c_byDistance, oX5 ap1 cp1_lanes cp1_positions cp1_room cp1_gap cp1_places cp1_picked ap1_lot ap1_pieces ap1_mark ap1_byDistance, rI cI ap1_lot 48 cp1_lot, rI cI ap1_pieces 48 cp1_pieces, rI cI ap1_mark 48 cp1_mark, rI cI ap1_byDistance 48 cp1_byDistance] H := hP
  have hD : va_D A [oX5 a0 cp1_lanes cp1_positions cp1_room cp1_gap cp1_places cp1_picked a_lot a_pieces a_mark a_byDistance, rI cI a_lot 48 (va_cpy cp1_lot c_lot (0 : Int32).toNatClampNeg (0 : Int32).toNatClampNeg (48 : Int32).toNatClampNeg), rI cI a_pieces 48 (va_cpy cp1_pieces c_pieces (0 : Int32).toNatClampNeg (0 : Int32).toNatClampNeg (48 : Int32).toNatClampNeg), rI cI a_mark 48 c_mark, rI cI a_byDistance 48 c_byDistance, oX5 ap1 cp1_lanes cp1_positions cp1_room cp1_gap cp1_places cp1_picked ap1_lot ap1_pieces ap1_mark ap1_byDistance, rI cI ap1_lot 48 cp1_lot, rI cI ap1_pieces 48 cp1_pieces, rI cI ap1_mark 48 cp1_mark, rI cI ap1_byDistance 48 cp1_byDistance] := hD
  refine lv_aload_n hx hb dX5_copyFrom_84 rfl (lv_at hl 1 rfl) ?_
  refine va_get (D := D) (ci := 4) (v := .ref ap1_mark) (C := RX5) (T := TX5) (N := 10) hx hb hts (fun w h => mb (iX5 w h)) hown hK hP 5 rfl rfl 8 (by decide) (hts _ (mb tb_61)) (fun _ h9 => h9) rfl dX5_copyFrom_85 ?_
  refine lv_iconst (v := 0) hx hb dX5_copyFrom_88 (by decide) ?_
  refine lv_aload_n hx hb dX5_copyFrom_89 rfl (lv_at hl 0 rfl) ?_
  refine va_get (D := D) (ci := 4) (v := .ref a_mark) (C := RX5) (T := TX5) (N := 10) hx hb hts (fun w h => mb (iX5 w h)) hown hK hP 0 rfl rfl 8 (by decide) (hts _ (mb tb_61)) (fun _ h9 => h9) rfl dX5_copyFrom_90 ?_
  refine lv_iconst (v := 0) hx hb dX5_copyFrom_93 (by decide) ?_
  refine lv_aload_n hx hb dX5_copyFrom_94 rfl (lv_at hl 0 rfl) ?_
  refine va_get (D := D) (ci := 4) (v := .ref a_mark) (C := RX5) (T := TX5) (N := 10) hx hb hts (fun w h => mb (iX5 w h)) hown hK hP 0 rfl rfl 8 (by decide) (hts _ (mb tb_61)) (fun _ h9 => h9) rfl dX5_copyFrom_95 ?_
  refine va_alen (v := 48) hx hb hK hP 3 0 rfl rfl rfl dX5_copyFrom_98 ?_
  refine va_copyi (ty := .int) hx hb (hml.trans hl.1.symm) hown (hts _ (mb tb_440)) (hts _ (mb tb_435)) (hts _ (mb tb_434)) (hts _ (mb tb_14)) hK hP hD hS 8 3 0 0 rfl rfl rfl rfl rfl (by decide) (by decide) (by decide) (by decide) (by decide) (fun _ _ => rfl) (Nat.le_of_ble_eq_true rfl) (Nat.le_of_ble_eq_true rfl) dX5_copyFrom_99 (fun H locs hP hD hS => ?_)
  have hP : va_P D vwCl [oX5 a0 cp1_lanes cp1_positions cp1_room cp1_gap cp1_places cp1_picked a_lot a_pieces a_mark a_byDistance, rI cI a_lot 48 (va_cpy cp1_lot c_lot (0 : Int32).toNatClampNeg (0 : Int32).toNatClampNeg (48 : Int32).toNatClampNeg), rI cI a_pieces 48 (va_cpy cp1_pieces c_pieces (0 : Int32).toNatClampNeg (0 : Int32).toNatClampNeg (48 : Int32).toNatClampNeg), rI cI a_mark 48 (va_cpy cp1_mark c_mark (0 : Int32).toNatClampNeg (0 : Int32).toNatClampNeg (48 : Int32).toNatClampNeg), rI cI a_byDistance 48 c_byDistance, oX5 ap1 cp1_lanes cp1_positions cp1_room cp1_gap cp1_places cp1_picked ap1_lot ap1_pieces ap1_mark ap1_byDistance, rI cI ap1_lot 48 cp1_lot, rI cI ap1_pieces 48 cp1_pieces, rI cI ap1_mark 48 cp1_mark, rI cI ap1_byDistance 48 cp1_byDistance] H := hP
  have hD : va_D A [oX5 a0 cp1_lanes cp1_positions cp1_room cp1_gap cp1_places cp1_picked a_lot a_pieces a_mark a_byDistance, rI cI a_lot 48 (va_cpy cp1_lot c_lot (0 : Int32).toNatClampNeg (0 : Int32).toNatClampNeg (48 : Int32).toNatClampNeg), rI cI a_pieces 48 (va_cpy cp1_pieces c_pieces (0 : Int32).toNatClampNeg (0 : Int32).toNatClampNeg (48 : Int32).toNatClampNeg), rI cI a_mark 48 (va_cpy cp1_mark c_mark (0 : Int32).toNatClampNeg (0 : Int32).toNatClampNeg (48 : Int32).toNatClampNeg), rI cI a_byDistance 48 c_byDistance, oX5 ap1 cp1_lanes cp1_positions cp1_room cp1_gap cp1_places cp1_picked ap1_lot ap1_pieces ap1_mark ap1_byDistance, rI cI ap1_lot 48 cp1_lot, rI cI ap1_pieces 48 cp1_pieces, rI cI ap1_mark 48 cp1_mark, rI cI ap1_byDistance 48 cp1_byDistance] := hD
  refine lv_aload_n hx hb dX5_copyFrom_102 rfl (lv_at hl 1 rfl) ?_
  refine va_get (D := D) (ci := 4) (v := .ref ap1_byDistance) (C := RX5) (T := TX5) (N := 10) hx hb hts (fun w h => mb (iX5 w h)) hown hK hP 5 rfl rfl 9 (by decide) (hts _ (mb tb_63)) (fun _ h9 => h9) rfl dX5_copyFrom_103 ?_
  refine lv_iconst (v := 0) hx hb dX5_copyFrom_106 (by decide) ?_
  refine lv_aload_n hx hb dX5_copyFrom_107 rfl (lv_at hl 0 rfl) ?_
  refine va_get (D := D) (ci := 4) (v := .ref a_byDistance) (C := RX5) (T := TX5) (N := 10) hx hb hts (fun w h => mb (iX5 w h)) hown hK hP 0 rfl rfl 9 (by decide) (hts _ (mb tb_63)) (fun _ h9 => h9) rfl dX5_copyFrom_108 ?_
  refine lv_iconst (v := 0) hx hb dX5_copyFrom_111 (by decide) ?_
  refine lv_aload_n hx hb dX5_copyFrom_112 rfl (lv_at hl 0 rfl) ?_
  refine va_get (D := D) (ci := 4) (v := .ref a_byDistance) (C := RX5) (T := TX5) (N := 10) hx hb hts (fun w h => mb (iX5 w h)) hown hK hP 0 rfl rfl 9 (by decide) (hts _ (mb tb_63)) (fun _ h9 => h9) rfl dX5_copyFrom_113 ?_
  refine va_alen (v := 48) hx hb hK hP 4 0 rfl rfl rfl dX5_copyFrom_116 ?_
  refine va_copyi (ty := .int) hx hb (hml.trans hl.1.symm) hown (hts _ (mb tb_440)) (hts _ (mb tb_435)) (hts _ (mb tb_434)) (hts _ (mb tb_14)) hK hP hD hS 9 4 0 0 rfl rfl rfl rfl rfl (by decide) (by decide) (by decide) (by decide) (by decide) (fun _ _ => rfl) (Nat.le_of_ble_eq_true rfl) (Nat.le_of_ble_eq_true rfl) dX5_copyFrom_117 (fun H locs hP hD hS => ?_)
  have hP : va_P D vwCl [oX5 a0 cp1_lanes cp1_positions cp1_room cp1_gap cp1_places cp1_picked a_lot a_pieces a_mark a_byDistance, rI cI a_lot 48 (va_cpy cp1_lot c_lot (0 : Int32).toNatClampNeg (0 : Int32).toNatClampNeg (48 : Int32).toNatClampNeg), rI cI a_pieces 48 (va_cpy cp1_pieces c_pieces (0 : Int32).toNatClampNeg (0 : Int32).toNatClampNeg (48 : Int32).toNatClampNeg), rI cI a_mark 48 (va_cpy cp1_mark c_mark (0 : Int32).toNatClampNeg (0 : Int32).toNatClampNeg (48 : Int32).toNatClampNeg), rI cI a_byDistance 48 (va_cpy cp1_byDistance c_byDistance (0 : Int32).toNatClampNeg (0 : Int32).toNatClampNeg (48 : Int32).toNatClampNeg), oX5 ap1 cp1_lanes cp1_positions cp1_room cp1_gap cp1_places cp1_picked ap1_lot ap1_pieces ap1_mark ap1_byDistance, rI cI ap1_lot 48 cp1_lot, rI cI ap1_pieces 48 cp1_pieces, rI cI ap1_mark 48 cp1_mark, rI cI ap1_byDistance 48 cp1_byDistance] H := hP
  have hD : va_D A [oX5 a0 cp1_lanes cp1_positions cp1_room cp1_gap cp1_places cp1_picked a_lot a_pieces a_mark a_byDistance, rI cI a_lot 48 (va_cpy cp1_lot c_lot (0 : Int32).toNatClampNeg (0 : Int32).toNatClampNeg (48 : Int32).toNatClampNeg), rI cI a_pieces 48 (va_cpy cp1_pieces c_pieces (0 : Int32).toNatClampNeg (0 : Int32).toNatClampNeg (48 : Int32).toNatClampNeg), rI cI a_mark 48 (va_cpy cp1_mark c_mark (0 : Int32).toNatClampNeg (0 : Int32).toNatClampNeg (48 : Int32).toNatClampNeg), rI cI a_byDistance 48 (va_cpy cp1_byDistance c_byDistance (0 : Int32).toNatClampNeg (0 : Int32).toNatClampNeg (48 : Int32).toNatClampNeg), oX5 ap1 cp1_lanes cp1_positions cp1_room cp1_gap cp1_places cp1_picked ap1_lot ap1_pieces ap1_mark ap1_byDistance, rI cI ap1_lot 48 cp1_lot, rI cI ap1_pieces 48 cp1_pieces, rI cI ap1_mark 48 cp1_mark, rI cI ap1_byDistance 48 cp1_byDistance] := hD
  cases hf
  refine W.widen (k := 0) (n := 0) (Nat.le_of_ble_eq_true rfl) (Nat.le_of_ble_eq_true rfl) ?_
  exact W.vret hx hb hr (fun t ht hW => ⟨⟨(), rfl, trivial, (by show va_P D vwCl _ t.heap; rw [ht]; exact hP)⟩, hS.F ht⟩) hS.2.2 dX5_copyFrom_120
