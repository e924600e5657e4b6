def f_X5_exists (v1 : Int32) (c_places : Int32) : Option (Int32) :=
  (if v1 < 0 then some 0
  else (if c_places ≤ v1 then some 0
  else (if 48 ≤ v1 then some 0
  else some 1)))
set_option maxHeartbeats 4000000 in
set_option maxRecDepth 100000 in
theorem k_X5_exists (l : Launch) (hl0 : l.stackTraces = false) (D : va_G) (cI cJ cZ cS : ClassId) (B0 : Nat) (H0 : Heap) (a0 a_lot a_pieces a_mark a_byDistance : Nat) (c_lanes : Int32) (c_positions : Int32) (c_room : Int32) (c_gap : Int32) (c_places : Int32) (c_picked : Int64) (v1 : Int32) (r9 : Int32)  (hf : f_X5_exists v1 c_places = some r9) : Met l yX5_exists (wz yX5_exists cX5_exists 2 (some .boolean)) ({ frames := 0, cells := 0, slots := 0, locals := 0 }) (va_Pc [.ref a0, .int v1] (rp D cI cJ cZ cS B0 [oX5 a0 c_lanes c_positions c_room c_gap c_places c_picked a_lot a_pieces a_mark a_byDistance] H0)) (va_Qi (fun (r2 : Int32) (_ : Unit) => r2 = r9) (fun _ t => t.heap = H0) (fun q => H0.size ≤ q)) 0 0 (fun q => H0.size ≤ q) := by
  refine Met.ofW (cc := cX5_exists) (maxL := 2) (ret := (some .boolean)) (by decide) rfl ?_
  intro p e s m args below meth c s₁ B hml hv
  obtain ⟨rfl, hH, hP, hK, hB0, hE⟩ := hv
  subst hH
  have hx := B.exec
  have hb := B.bytes
  have hr := B.returns
  have hts := atoms_spec (ws := (wz yX5_exists cX5_exists 2 (some .boolean))) B.pre
  have hown : s.vm.findClass RX5 = some m.cls := findClass_of_methodNamed B.named
  have hlocks := B.notSynchronized
  have hAB : ∀ q : Nat, s.heap.size ≤ q → B0 ≤ q := fun q h => Nat.le_trans hB0 h
  have hA : ∀ q : Nat, s.heap.size ≤ q → s.heap.size ≤ q := fun _ h => h
  have hS : va_S (fun q => s.heap.size ≤ q) s.heap s.heap [] := va_S.rf
  have hBn := fun (H : Heap) (locs : List Loc) (h : va_S (fun q => s.heap.size ≤ q) s.heap H locs) => Nat.le_trans hB0 h.1
  have hEn := fun (H : Heap) (locs : List Loc) (h : va_S (fun q => s.heap.size ≤ q) s.heap H locs) => gE_now hE h hAB
  have hl := lv_entry ([.ref a0, .int v1]) (n := 2) (Nat.le_of_ble_eq_true rfl)
  rw [lg_entry_eq]
  generalize (lg_sl ([.ref a0, .int v1]) ++ List.replicate (2 - (lg_sl ([.ref a0, .int v1])).length) Slot.unset).toArray = ls at hl ⊢
  have hl : lv_has ls 2 [(0, .ref a0), (1, .int v1)] := hl
  obtain ⟨H, hHe⟩ : ∃ H : Heap, H = s.heap := ⟨_, rfl⟩
  have hP : va_P D vwCl [oX5 a0 c_lanes c_positions c_room c_gap c_places c_picked a_lot a_pieces a_mark a_byDistance] H := by rw [hHe]; exact hP
  have hS : va_S (fun q => s.heap.size ≤ q) s.heap H [] := by rw [hHe]; exact hS
  refine W_heq hHe ?_
  unfold f_X5_exists at hf
  refine lv_iload_n hx hb dX5_exists_0 rfl (lv_at hl 1 rfl) ?_
  refine lv_if_lt (tgt := 22) hx hb dX5_exists_1 (by decide) (fun h1 => ?_) (fun h1 => ?_)
  · have hf := ipos h1 hf
    refine lv_iconst (v := 0) hx hb dX5_exists_22 (by decide) ?_
    cases hf
    exact W.zret hx hb hr rfl (fun t ht hW => ⟨⟨_, (), rfl, rfl, (ht.trans hHe)⟩, hS.F ht⟩) hS.2.2 dX5_exists_23
  · have hf := ineg h1 hf
    refine lv_iload_n hx hb dX5_exists_4 rfl (lv_at hl 1 rfl) ?_
    refine lv_aload_n hx hb dX5_exists_5 rfl (lv_at hl 0 rfl) ?_
    refine va_get (D := D) (ci := 4) (v := .int c_places) (C := RX5) (T := TX5) (N := 10) hx hb hts (fun w h => mb (iX5 w h)) hown hK hP 0 rfl rfl 4 (by decide) (hts _ (mb tb_48)) (fun _ h9 => h9) rfl dX5_exists_6 ?_
    refine lv_icmp_ge (tgt := 22) hx hb dX5_exists_9 (by decide) (fun h2 => ?_) (fun h2 => ?_)
    · have hf := ipos h2 hf
      refine lv_iconst (v := 0) hx hb dX5_exists_22 (by decide) ?_
      cases hf
      exact W.zret hx hb hr rfl (fun t ht hW => ⟨⟨_, (), rfl, rfl, (ht.trans hHe)⟩, hS.F ht⟩) hS.2.2 dX5_exists_23
    · have hf := ineg h2 hf
      refine lv_iload_n hx hb dX5_exists_12 rfl (lv_at hl 1 rfl) ?_
      refine lv_bipush (v := 48) hx hb dX5_exists_13 (by decide) ?_
      refine lv_icmp_ge (tgt := 22) hx hb dX5_exists_15 (by decide) (fun h3 => ?_) (fun h3 => ?_)
      · have hf := ipos h3 hf
        refine lv_iconst (v := 0) hx hb dX5_exists_22 (by decide) ?_
        cases hf
        exact W.zret hx hb hr rfl (fun t ht hW => ⟨⟨_, (), rfl, rfl, (ht.trans hHe)⟩, hS.F ht⟩) hS.2.2 dX5_exists_23
      · have hf := ineg h3 hf
        refine lv_iconst (v := 1) hx hb dX5_exists_18 (by decide) ?_
        refine lv_goto (tgt := 23) hx hb dX5_exists_19 (by decide) ?_
        cases hf
        exact W.zret hx hb hr rfl (fun t ht hW => ⟨⟨_, (), rfl, rfl, (ht.trans hHe)⟩, hS.F ht⟩) hS.2.2 dX5_exists_23
def f_X5_isWith (v1 : Int32) (v2 : Int32) (c_places : Int32) (c_lot : Nat → Int32) (c_pieces : Nat → Int32) : Option (Int32) :=
  bnd1 (f_X5_exists v1 c_places) (fun r1 =>
  ((if r1 = 0 then some 0
  else gd v1 48 ((if (c_pieces v1.toNatClampNeg) ≤ 0 then some 0
  else gd v1 48 ((if (c_lot v1.toNatClampNeg) = v2 then some 1
  else some 0)))))))
set_option maxHeartbeats 4000000 in
set_option maxRecDepth 100000 in
theorem k_X5_isWith (l : Launch) (hl0 : l.stackTraces = false) (D : va_G) (cI cJ cZ cS : ClassId) (B0 : Nat) (H0 : Heap) (a0 a_lot a_pieces a_mark a_byDistance : Nat) (c_lanes : Int32) (c_positions : Int32) (c_room : Int32) (c_gap : Int32) (c_places : Int32) (c_picked : Int64) (c_lot : Nat → Int32) (c_pieces : Nat → Int32) (v1 : Int32) (v2 : Int32) (r9 : Int32)  (hf : f_X5_isWith v1 v2 c_places c_lot c_pieces = some r9) : Met l yX5_isWith (wz yX5_isWith cX5_isWith 3 (some .boolean)) ({ frames := 1, cells := 0, slots := 0, locals := 21 }) (va_Pc [.ref a0, .int v1, .int v2] (rp D cI cJ cZ cS B0 [oX5 a0 c_lanes c_positions c_room c_gap c_places c_picked a_lot a_pieces a_mark a_byDistance, rI cI a_lot 48 c_lot, rI cI a_pieces 48 c_pieces] H0)) (va_Qi (fun (r2 : Int32) (_ : Unit) => r2 = r9) (fun _ t => t.heap = H0) (fun q => H0.size ≤ q)) 0 0 (fun q => H0.size ≤ q) := by
  refine Met.ofW (cc := cX5_isWith) (maxL := 3) (ret := (some .boolean)) (by decide) rfl ?_
  intro p e s m args below meth c s₁ B hml hv
  obtain ⟨rfl, hH, hP, hK, hB0, hE⟩ := hv
  subst hH
  have hx := B.exec
  have hb := B.bytes
  have hr := B.returns
  have hts := atoms_spec (ws := (wz yX5_isWith cX5_isWith 3 (some .boolean))) B.pre
  have hown : s.vm.findClass RX5 = some m.cls := findClass_of_methodNamed B.named
  have hlocks := B.notSynchronized
  have hAB : ∀ q : Nat, s.heap.size ≤ q → B0 ≤ q := fun q h => Nat.le_trans hB0 h
  have hA : ∀ q : Nat, s.heap.size ≤ q → s.heap.size ≤ q := fun _ h => h
  have hS : va_S (fun q => s.heap.size ≤ q) s.heap s.heap [] := va_S.rf
  have hBn := fun (H : Heap) (locs : List Loc) (h : va_S (fun q => s.heap.size ≤ q) s.heap H locs) => Nat.le_trans hB0 h.1
  have hEn := fun (H : Heap) (locs : List Loc) (h : va_S (fun q => s.heap.size ≤ q) s.heap H locs) => gE_now hE h hAB
  have hl := lv_entry ([.ref a0, .int v1, .int v2]) (n := 3) (Nat.le_of_ble_eq_true rfl)
  rw [lg_entry_eq]
  generalize (lg_sl ([.ref a0, .int v1, .int v2]) ++ List.replicate (3 - (lg_sl ([.ref a0, .int v1, .int v2])).length) Slot.unset).toArray = ls at hl ⊢
  have hl : lv_has ls 3 [(0, .ref a0), (1, .int v1), (2, .int v2)] := hl
  obtain ⟨H, hHe⟩ : ∃ H : Heap, H = s.heap := ⟨_, rfl⟩
  have hP : va_P D vwCl [oX5 a0 c_lanes c_positions c_room c_gap c_places c_picked a_lot a_pieces a_mark a_byDistance, rI cI a_lot 48 c_lot, rI cI a_pieces 48 c_pieces] H := by rw [hHe]; exact hP
  have hS : va_S (fun q => s.heap.size ≤ q) s.heap H [] := by rw [hHe]; exact hS
  refine W_heq hHe ?_
  unfold f_X5_isWith at hf
  refine lv_aload_n hx hb dX5_isWith_0 rfl (lv_at hl 0 rfl) ?_
  refine lv_iload_n hx hb dX5_isWith_1 rfl (lv_at hl 1 rfl) ?_
  obtain ⟨r1, hc2, hf⟩ := ob1 hf
  refine ro_calli (r := r1) (va_runV (As := [.int v1]) (rest := []) ⟨hx, hb, hml, hown, hts⟩ (k_X5_exists l hl0 D cI cJ cZ cS B0 H a0 a_lot a_pieces a_mark a_byDistance c_lanes c_positions c_room c_gap c_places c_picked v1 r1 hc2) (cwV 1 hts (gV tb_258 tb_259 tb_260 tb_3 tb_261) rfl rfl rfl (by decide +kernel) ⟨Nat.le_of_ble_eq_true rfl, Nat.le_of_ble_eq_true rfl⟩) ⟨rp_blind, va_recv hK hP (ci := 4) (q0 := 0) rfl rfl, rp_pre (hP.sub [0] rfl) hK (hBn _ _ hS) (hEn _ _ hS)⟩ rfl rfl hl.1 rfl (lv_room (Nat.le_of_ble_eq_true rfl)) dX5_isWith_2 ⟨Nat.le_of_ble_eq_true rfl, Nat.le_of_ble_eq_true rfl⟩) ?_
  refine lv_if_eq (tgt := 31) hx hb dX5_isWith_5 (by decide) (fun h3 => ?_) (fun h3 => ?_)
  · have hf := ipos h3 hf
    refine lv_iconst (v := 0) hx hb dX5_isWith_31 (by decide) ?_
    cases hf
    exact W.zret hx hb hr rfl (fun t ht hW => ⟨⟨_, (), rfl, rfl, (ht.trans hHe)⟩, hS.F ht⟩) hS.2.2 dX5_isWith_32
  · have hf := ineg h3 hf
    refine lv_aload_n hx hb dX5_isWith_8 rfl (lv_at hl 0 rfl) ?_
    refine va_get (D := D) (ci := 4) (v := .ref a_pieces) (C := RX5) (T := TX5) (N := 10) hx hb hts (fun w h => mb (iX5 w h)) hown hK hP 0 rfl rfl 7 (by decide) (hts _ (mb tb_54)) (fun _ h9 => h9) rfl dX5_isWith_9 ?_
    refine lv_iload_n hx hb dX5_isWith_12 rfl (lv_at hl 1 rfl) ?_
    obtain ⟨h4, hf⟩ := ob_d hf
    refine va_iald hx hb hK hP 2 0 rfl rfl h4 dX5_isWith_13 ?_
    refine lv_if_le (tgt := 31) hx hb dX5_isWith_14 (by decide) (fun h5 => ?_) (fun h5 => ?_)
    · have hf := ipos h5 hf
      refine lv_iconst (v := 0) hx hb dX5_isWith_31 (by decide) ?_
      cases hf
      exact W.zret hx hb hr rfl (fun t ht hW => ⟨⟨_, (), rfl, rfl, (ht.trans hHe)⟩, hS.F ht⟩) hS.2.2 dX5_isWith_32
    · have hf := ineg h5 hf
      refine lv_aload_n hx hb dX5_isWith_17 rfl (lv_at hl 0 rfl) ?_
      refine va_get (D := D) (ci := 4) (v := .ref a_lot) (C := RX5) (T := TX5) (N := 10) hx hb hts (fun w h => mb (iX5 w h)) hown hK hP 0 rfl rfl 6 (by decide) (hts _ (mb tb_52)) (fun _ h9 => h9) rfl dX5_isWith_18 ?_
      refine lv_iload_n hx hb dX5_isWith_21 rfl (lv_at hl 1 rfl) ?_
      obtain ⟨h6, hf⟩ := ob_d hf
      refine va_iald hx hb hK hP 1 0 rfl rfl h6 dX5_isWith_22 ?_
      refine lv_iload_n hx hb dX5_isWith_23 rfl (lv_at hl 2 rfl) ?_
      refine lv_icmp_ne (tgt := 31) hx hb dX5_isWith_24 (by decide) (fun h7 => ?_) (fun h7 => ?_)
      · have hf := ineg h7 hf
        refine lv_iconst (v := 0) hx hb dX5_isWith_31 (by decide) ?_
        cases hf
        exact W.zret hx hb hr rfl (fun t ht hW => ⟨⟨_, (), rfl, rfl, (ht.trans hHe)⟩, hS.F ht⟩) hS.2.2 dX5_isWith_32
      · have hf := ipos h7 hf
        refine lv_iconst (v := 1) hx hb dX5_isWith_27 (by decide) ?_
        refine lv_goto (tgt := 32) hx hb dX5_isWith_28 (by decide) ?_
        cases hf
        exact W.zret hx hb hr rfl (fun t ht hW => ⟨⟨_, (), rfl, rfl, (ht.trans hHe)⟩, hS.F ht⟩) hS.2.2 dX5_isWith_32
def f_X5_piecesOf_L4_J30 (n1 : Int32) (n2 : Int32) (n3 : Int32) (c_places : Int32) (c_lot : Nat → Int32) (c_pieces : Nat → Int32) : Option ((Int32 × Int32) ⊕ Int32) :=
  some (.inl (n2, n3 + 1))
def f_X5_piecesOf_L4 (n1 : Int32) (c_places : Int32) (c_lot : Nat → Int32) (c_pieces : Nat → Int32) (n2 : Int32) (n3 : Int32) : Option ((Int32 × Int32) ⊕ Int32) :=
  (if c_places ≤ n3 then some (.inr n2)
  else bnd1 (f_X5_isWith n3 n1 c_places c_lot c_pieces) (fun r2 =>
  ((if r2 = 0 then f_X5_piecesOf_L4_J30 n1 n2 n3 c_places c_lot c_pieces
  else gd n3 48 (f_X5_piecesOf_L4_J30 n1 (n2 + (c_pieces n3.toNatClampNeg)) n3 c_places c_lot c_pieces)))))
def f_X5_piecesOf (v1 : Int32) (c_places : Int32) (c_lot : Nat → Int32) (c_pieces : Nat → Int32) : Option (Int32) :=
  (bnd1 (loop (fun z => f_X5_piecesOf_L4 v1 c_places c_lot c_pieces z.1 z.2) fu (0, 0)) fun m7 =>
  some m7)
set_option maxHeartbeats 4000000 in
set_option maxRecDepth 100000 in
theorem k_X5_piecesOf (l : Launch) (hl0 : l.stackTraces = false) (D : va_G) (cI cJ cZ cS : ClassId) (B0 : Nat) (H0 : Heap) (a0 a_lot a_pieces a_mark a_byDistance : Nat) (c_lanes : Int32) (c_positions : Int32) (c_room : Int32) (c_gap : Int32) (c_places : Int32) (c_picked : Int64) (c_lot : Nat → Int32) (c_pieces : Nat → Int32) (v1 : Int32) (r9 : Int32)  (hf : f_X5_piecesOf v1 c_places c_lot c_pieces = some r9) : Met l yX5_piecesOf (wz yX5_piecesOf cX5_piecesOf 4 (some .int)) ({ frames := 2, cells := 0, slots := 0, locals := 43 }) (va_Pc [.ref a0, .int v1] (rp D cI cJ cZ cS B0 [oX5 a0 c_lanes c_positions c_room c_gap c_places c_picked a_lot a_pieces a_mark a_byDistance, rI cI a_lot 48 c_lot, rI cI a_pieces 48 c_pieces] H0)) (va_Qi (fun (r2 : Int32) (_ : Unit) => r2 = r9) (fun _ t => t.heap = H0) (fun q => H0.size ≤ q)) 0 0 (fun q => H0.size ≤ q) := by
  refine Met.ofW (cc := cX5_piecesOf) (maxL := 4) (ret := (some .int)) (by decide) rfl ?_
  intro p e s m args below meth c s₁ B hml hv
  obtain ⟨rfl, hH, hP, hK, hB0, hE⟩ := hv
  subst hH
  have hx := B.exec
  have hb := B.bytes
  have hr := B.returns
  have hts := atoms_spec (ws := (wz yX5_piecesOf cX5_piecesOf 4 (some .int))) B.pre
  have hown : s.vm.findClass RX5 = some m.cls := findClass_of_methodNamed B.named
  have hlocks := B.notSynchronized
  have hAB : ∀ q : Nat, s.heap.size ≤ q → B0 ≤ q := fun q h => Nat.le_trans hB0 h
  have hA : ∀ q : Nat, s.heap.size ≤ q → s.heap.size ≤ q := fun _ h => h
  have hS : va_S (fun q => s.heap.size ≤ q) s.heap s.heap [] := va_S.rf
  have hBn := fun (H : Heap) (locs : List Loc) (h : va_S (fun q => s.heap.size ≤ q) s.heap H locs) => Nat.le_trans hB0 h.1
  have hEn := fun (H : Heap) (locs : List Loc) (h : va_S (fun q => s.heap.size ≤ q) s.heap H locs) => gE_now hE h hAB
  have hl := lv_entry ([.ref a0, .int v1]) (n := 4) (Nat.le_of_ble_eq_true rfl)
  rw [lg_entry_eq]
  generalize (lg_sl ([.ref a0, .int v1]) ++ List.replicate (4 - (lg_sl ([.ref a0, .int v1])).length) Slot.unset).toArray = ls at hl ⊢
  have hl : lv_has ls 4 [(0, .ref a0), (1, .int v1)] := hl
  obtain ⟨H, hHe⟩ : ∃ H : Heap, H = s.heap := ⟨_, rfl⟩
  have hP : va_P D vwCl [oX5 a0 c_lanes c_positions c_room c_gap c_places c_picked a_lot a_pieces a_mark a_byDistance, rI cI a_lot 48 c_lot, rI cI a_pieces 48 c_pieces] H := by rw [hHe]; exact hP
  have hS : va_S (fun q => s.heap.size ≤ q) s.heap H [] := by rw [hHe]; exact hS
  refine W_heq hHe ?_
  unfold f_X5_piecesOf at hf
  refine gen_go (fun WW hWW => ?_)
  have hL4 : ∀ (n : Nat) (n1 : Int32) (n2 : Int32) (n3 : Int32) (e2 : Int32), loop (fun z => f_X5_piecesOf_L4 n1 c_places c_lot c_pieces z.1 z.2) n (n2, n3) = some e2 → (∀ (ls : Array Slot), lv_has ls 4 [(2, .int e2)] → WW (F0 m 36 ls [])) → ∀ (ls : Array Slot), lv_has ls 4 [(0, .ref a0), (1, .int n1), (2, .int n2), (3, .int n3)] → WW (F0 m 4 ls []) := by
    intro n
    induction n with
    | zero =>
      intro n1 n2 n3 e2 hlp
      exact absurd hlp (by simp [loop])
    | succ n ih =>
      intro n1 n2 n3 e2 hlp K ls hl
      obtain ⟨x9, hf, hlp⟩ := loop_s hlp
      have hf : f_X5_piecesOf_L4 n1 c_places c_lot c_pieces n2 n3 = some x9 := hf
      unfold f_X5_piecesOf_L4 at hf
      have hJ30 : ∀ (n2 : Int32) (n3 : Int32), f_X5_piecesOf_L4_J30 n1 n2 n3 c_places c_lot c_pieces = some x9 → ∀ (ls : Array Slot), lv_has ls 4 [(0, .ref a0), (1, .int n1), (2, .int n2), (3, .int n3)] → WW (F0 m 30 ls []) := by
        intro n2 n3 hf ls hl
        unfold f_X5_piecesOf_L4_J30 at hf
        refine (hWW _).mpr ?_
        refine lv_iinc (v := (n3 + 1)) (lv' := [(3, .int (n3 + 1)), (0, .ref a0), (1, .int n1), (2, .int n2)]) hx hb dX5_piecesOf_30 hl (k := 3) rfl rfl (by decide) rfl (fun ls hl => ?_)
        refine lv_goto (tgt := 4) hx hb dX5_piecesOf_33 (by decide) ?_
        obtain rfl := Option.some.inj hf
        exact (hWW _).mp (ih _ _ _ _ hlp K ls (lv_sub hl [1, 2, 3, 0] rfl))
      refine (hWW _).mpr ?_
      refine lv_iload_n hx hb dX5_piecesOf_4 rfl (lv_at hl 3 rfl) ?_
      refine lv_aload_n hx hb dX5_piecesOf_5 rfl (lv_at hl 0 rfl) ?_
      refine va_get (D := D) (ci := 4) (v := .int c_places) (C := RX5) (T := TX5) (N := 10) hx hb hts (fun w h => mb (iX5 w h)) hown hK hP 0 rfl rfl 4 (by decide) (hts _ (mb tb_48)) (fun _ h9 => h9) rfl dX5_piecesOf_6 ?_
      refine lv_icmp_ge (tgt := 36) hx hb dX5_piecesOf_9 (by decide) (fun h1 => ?_) (fun h1 => ?_)
      · have hf := ipos h1 hf
        obtain rfl := Option.some.inj hf
        cases lpx_r hlp
        exact (hWW _).mp (K ls (lv_sub hl [2] rfl))
      · have hf := ineg h1 hf
        refine lv_aload_n hx hb dX5_piecesOf_12 rfl (lv_at hl 0 rfl) ?_
        refine lv_iload_n hx hb dX5_piecesOf_13 rfl (lv_at hl 3 rfl) ?_
        refine lv_iload_n hx hb dX5_piecesOf_14 rfl (lv_at hl 1 rfl) ?_
        obtain ⟨r2, hc3, hf⟩ := ob1 hf
        refine ro_calli (r := r2) (va_runV (As := [.int n3, .int n1]) (rest := []) ⟨hx, hb, hml, hown, hts⟩ (k_X5_isWith l hl0 D cI cJ cZ cS B0 H a0 a_lot a_pieces a_mark a_byDistance c_lanes c_positions c_room c_gap c_places c_picked c_lot c_pieces n3 n1 r2 hc3) (cwV 2 hts (gV tb_371 tb_372 tb_373 tb_3 tb_374) rfl rfl rfl (by decide +kernel) ⟨Nat.le_of_ble_eq_true rfl, Nat.le_of_ble_eq_true rfl⟩) ⟨rp_blind, va_recv hK hP (ci := 4) (q0 := 0) rfl rfl, rp_pre (hP.sub [0, 1, 2] rfl) hK (hBn _ _ hS) (hEn _ _ hS)⟩ rfl rfl hl.1 rfl (lv_room (Nat.le_of_ble_eq_true rfl)) dX5_piecesOf_15 ⟨Nat.le_of_ble_eq_true rfl, Nat.le_of_ble_eq_true rfl⟩) ?_
        refine lv_if_eq (tgt := 30) hx hb dX5_piecesOf_18 (by decide) (fun h4 => ?_) (fun h4 => ?_)
        · have hf := ipos h4 hf
          exact (hWW _).mp (hJ30 _ _ hf ls (lv_sub hl [0, 1, 2, 3] rfl))
        · have hf := ineg h4 hf
          refine lv_iload_n hx hb dX5_piecesOf_21 rfl (lv_at hl 2 rfl) ?_
          refine lv_aload_n hx hb dX5_piecesOf_22 rfl (lv_at hl 0 rfl) ?_
          refine va_get (D := D) (ci := 4) (v := .ref a_pieces) (C := RX5) (T := TX5) (N := 10) hx hb hts (fun w h => mb (iX5 w h)) hown hK hP 0 rfl rfl 7 (by decide) (hts _ (mb tb_54)) (fun _ h9 => h9) rfl dX5_piecesOf_23 ?_
          refine lv_iload_n hx hb dX5_piecesOf_26 rfl (lv_at hl 3 rfl) ?_
          obtain ⟨h5, hf⟩ := ob_d hf
          refine va_iald hx hb hK hP 2 0 rfl rfl h5 dX5_piecesOf_27 ?_
          refine lv_iadd hx hb dX5_piecesOf_28 ?_
          refine lv_istore_n (lv' := [(2, .int (n2 + (c_pieces n3.toNatClampNeg))), (0, .ref a0), (1, .int n1), (3, .int n3)]) hx hb dX5_piecesOf_29 rfl hl (by decide) rfl (fun ls hl => ?_)
          exact (hWW _).mp (hJ30 _ _ hf ls (lv_sub hl [1, 2, 0, 3] rfl))
  refine (hWW _).mpr ?_
  refine lv_iconst (v := 0) hx hb dX5_piecesOf_0 (by decide) ?_
  refine lv_istore_n (lv' := [(2, .int 0), (0, .ref a0), (1, .int v1)]) hx hb dX5_piecesOf_1 rfl hl (by decide) rfl (fun ls hl => ?_)
  refine lv_iconst (v := 0) hx hb dX5_piecesOf_2 (by decide) ?_
  refine lv_istore_n (lv' := [(3, .int 0), (2, .int 0), (0, .ref a0), (1, .int v1)]) hx hb dX5_piecesOf_3 rfl hl (by decide) rfl (fun ls hl => ?_)
  obtain ⟨m7, hc6, hf⟩ := ob1 hf
  refine (hWW _).mp (hL4 fu _ _ _ _ hc6 (fun ls hl => ?_) ls (lv_sub hl [2, 3, 1, 0] rfl))
  · refine (hWW _).mpr ?_
    refine lv_iload_n hx hb dX5_piecesOf_36 rfl (lv_at hl 0 rfl) ?_
    cases hf
    exact W.iret hx hb hr (fun t ht hW => ⟨⟨_, (), rfl, rfl, (ht.trans hHe)⟩, hS.F ht⟩) hS.2.2 dX5_piecesOf_37
def f_X5_isFree (v1 : Int32) (c_places : Int32) (c_pieces : Nat → Int32) : Option (Int32) :=
  bnd1 (f_X5_exists v1 c_places) (fun r1 =>
  ((if r1 = 0 then some 0
  else gd v1 48 ((if (c_pieces v1.toNatClampNeg) = 0 then some 1
  else some 0)))))
set_option maxHeartbeats 4000000 in
set_option maxRecDepth 100000 in
theorem k_X5_isFree (l : Launch) (hl0 : l.stackTraces = false) (D : va_G) (cI cJ cZ cS : ClassId) (B0 : Nat) (H0 : Heap) (a0 a_lot a_pieces a_mark a_byDistance : Nat) (c_lanes : Int32) (c_positions : Int32) (c_room : Int32) (c_gap : Int32) (c_places : Int32) (c_picked : Int64) (c_pieces : Nat → Int32) (v1 : Int32) (r9 : Int32)  (hf : f_X5_isFree v1 c_places c_pieces = some r9) : Met l yX5_isFree (wz yX5_isFree cX5_isFree 2 (some .boolean)) ({ frames := 1, cells := 0, slots := 0, locals := 21 }) (va_Pc [.ref a0, .int v1] (rp D cI cJ cZ cS B0 [oX5 a0 c_lanes c_positions c_room c_gap c_places c_picked a_lot a_pieces a_mark a_byDistance, rI cI a_pieces 48 c_pieces] H0)) (va_Qi (fun (r2 : Int32) (_ : Unit) => r2 = r9) (fun _ t => t.heap = H0) (fun q => H0.size ≤ q)) 0 0 (fun q => H0.size ≤ q) := by
  refine Met.ofW (cc := cX5_isFree) (maxL := 2) (ret := (some .boolean)) (by decide) rfl ?_
  intro p e s m args below meth c s₁ B hml hv
  obtain ⟨rfl, hH, hP, hK, hB0, hE⟩ := hv
  subst hH
  have hx := B.exec
  have hb := B.bytes
  have hr := B.returns
  have hts := atoms_spec (ws := (wz yX5_isFree cX5_isFree 2 (some .boolean))) B.pre
  have hown : s.vm.findClass RX5 = some m.cls := findClass_of_methodNamed B.named
  have hlocks := B.notSynchronized
  have hAB : ∀ q : Nat, s.heap.size ≤ q → B0 ≤ q := fun q h => Nat.le_trans hB0 h
  have hA : ∀ q : Nat, s.heap.size ≤ q → s.heap.size ≤ q := fun _ h => h
  have hS : va_S (fun q => s.heap.size ≤ q) s.heap s.heap [] := va_S.rf
  have hBn := fun (H : Heap) (locs : List Loc) (h : va_S (fun q => s.heap.size ≤ q) s.heap H locs) => Nat.le_trans hB0 h.1
  have hEn := fun (H : Heap) (locs : List Loc) (h : va_S (fun q => s.heap.size ≤ q) s.heap H locs) => gE_now hE h hAB
  have hl := lv_entry ([.ref a0, .int v1]) (n := 2) (Nat.le_of_ble_eq_true rfl)
  rw [lg_entry_eq]
  generalize (lg_sl ([.ref a0, .int v1]) ++ List.replicate (2 - (lg_sl ([.ref a0, .int v1])).length) Slot.unset).toArray = ls at hl ⊢
  have hl : lv_has ls 2 [(0, .ref a0), (1, .int v1)] := hl
  obtain ⟨H, hHe⟩ : ∃ H : Heap, H = s.heap := ⟨_, rfl⟩
  have hP : va_P D vwCl [oX5 a0 c_lanes c_positions c_room c_gap c_places c_picked a_lot a_pieces a_mark a_byDistance, rI cI a_pieces 48 c_pieces] H := by rw [hHe]; exact hP
  have hS : va_S (fun q => s.heap.size ≤ q) s.heap H [] := by rw [hHe]; exact hS
  refine W_heq hHe ?_
  unfold f_X5_isFree at hf
  refine lv_aload_n hx hb dX5_isFree_0 rfl (lv_at hl 0 rfl) ?_
  refine lv_iload_n hx hb dX5_isFree_1 rfl (lv_at hl 1 rfl) ?_
  obtain ⟨r1, hc2, hf⟩ := ob1 hf
  refine ro_calli (r := r1) (va_runV (As := [.int v1]) (rest := []) ⟨hx, hb, hml, hown, hts⟩ (k_X5_exists l hl0 D cI cJ cZ cS B0 H a0 a_lot a_pieces a_mark a_byDistance c_lanes c_positions c_room c_gap c_places c_picked v1 r1 hc2) (cwV 1 hts (gV tb_258 tb_259 tb_260 tb_3 tb_261) rfl rfl rfl (by decide +kernel) ⟨Nat.le_of_ble_eq_true rfl, Nat.le_of_ble_eq_true rfl⟩) ⟨rp_blind, va_recv hK hP (ci := 4) (q0 := 0) rfl rfl, rp_pre (hP.sub [0] rfl) hK (hBn _ _ hS) (hEn _ _ hS)⟩ rfl rfl hl.1 rfl (lv_room (Nat.le_of_ble_eq_true rfl)) dX5_isFree_2 ⟨Nat.le_of_ble_eq_true rfl, Nat.le_of_ble_eq_true rfl⟩) ?_
  refine lv_if_eq (tgt := 21) hx hb dX5_isFree_5 (by decide) (fun h3 => ?_) (fun h3 => ?_)
  · have hf := ipos h3 hf
    refine lv_iconst (v := 0) hx hb dX5_isFree_21 (by decide) ?_
    cases hf
    exact W.zret hx hb hr rfl (fun t ht hW => ⟨⟨_, (), rfl, rfl, (ht.trans hHe)⟩, hS.F ht⟩) hS.2.2 dX5_isFree_22
  · have hf := ineg h3 hf
    refine lv_aload_n hx hb dX5_isFree_8 rfl (lv_at hl 0 rfl) ?_
    refine va_get (D := D) (ci := 4) (v := .ref a_pieces) (C := RX5) (T := TX5) (N := 10) hx hb hts (fun w h => mb (iX5 w h)) hown hK hP 0 rfl rfl 7 (by decide) (hts _ (mb tb_54)) (fun _ h9 => h9) rfl dX5_isFree_9 ?_
    refine lv_iload_n hx hb dX5_isFree_12 rfl (lv_at hl 1 rfl) ?_
    obtain ⟨h4, hf⟩ := ob_d hf
    refine va_iald hx hb hK hP 1 0 rfl rfl h4 dX5_isFree_13 ?_
    refine lv_if_ne (tgt := 21) hx hb dX5_isFree_14 (by decide) (fun h5 => ?_) (fun h5 => ?_)
    · have hf := ineg h5 hf
      refine lv_iconst (v := 0) hx hb dX5_isFree_21 (by decide) ?_
      cases hf
      exact W.zret hx hb hr rfl (fun t ht hW => ⟨⟨_, (), rfl, rfl, (ht.trans hHe)⟩, hS.F ht⟩) hS.2.2 dX5_isFree_22
    · have hf := ipos h5 hf
      refine lv_iconst (v := 1) hx hb dX5_isFree_17 (by decide) ?_
      refine lv_goto (tgt := 22) hx hb dX5_isFree_18 (by decide) ?_
      cases hf
      exact W.zret hx hb hr rfl (fun t ht hW => ⟨⟨_, (), rfl, rfl, (ht.trans hHe)⟩, hS.F ht⟩) hS.2.2 dX5_isFree_22
def f_X5_nearestFree_L2 (c_places : Int32) (c_pieces : Nat → Int32) (c_byDistance : Nat → Int32) (n1 : Int32) : Option ((Int32) ⊕ ((Int32) ⊕ Unit)) :=
  (if c_places ≤ n1 then some (.inr (.inr ()))
  else gd n1 48 (bnd1 (f_X5_isFree (c_byDistance n1.toNatClampNeg) c_places c_pieces) (fun r3 =>
  ((if r3 = 0 then some (.inl (n1 + 1))
  else some (.inr (.inl n1)))))))
def f_X5_nearestFree (c_places : Int32) (c_pieces : Nat → Int32) (c_byDistance : Nat → Int32) : Option (Int32) :=
  (bnd1 (loop (fun z => f_X5_nearestFree_L2 c_places c_pieces c_byDistance z) fu 0) fun e7 =>
  (sel (fun m8 => gd m8 48 (some (c_byDistance m8.toNatClampNeg))) (fun _ => some (-1))) e7)
set_option maxHeartbeats 4000000 in
set_option maxRecDepth 100000 in
theorem k_X5_nearestFree (l : Launch) (hl0 : l.stackTraces = false) (D : va_G) (cI cJ cZ cS : ClassId) (B0 : Nat) (H0 : Heap) (a0 a_lot a_pieces a_mark a_byDistance : Nat) (c_lanes : Int32) (c_positions : Int32) (c_room : Int32) (c_gap : Int32) (c_places : Int32) (c_picked : Int64) (c_pieces : Nat → Int32) (c_byDistance : Nat → Int32) (r9 : Int32)  (hf : f_X5_nearestFree c_places c_pieces c_byDistance = some r9) : Met l yX5_nearestFree (wz yX5_nearestFree cX5_nearestFree 2 (some .int)) ({ frames := 2, cells := 0, slots := 0, locals := 42 }) (va_Pc [.ref a0] (rp D cI cJ cZ cS B0 [oX5 a0 c_lanes c_positions c_room c_gap c_places c_picked a_lot a_pieces a_mark a_byDistance, rI cI a_pieces 48 c_pieces, rI cI a_byDistance 48 c_byDistance] H0)) (va_Qi (fun (r2 : Int32) (_ : Unit) => r2 = r9) (fun _ t => t.heap = H0) (fun q => H0.size ≤ q)) 0 0 (fun q => H0.size ≤ q) := by
  refine Met.ofW (cc := cX5_nearestFree) (maxL := 2) (ret := (some .int)) (by decide) rfl ?_
  intro p e s m args below meth c s₁ B hml hv
  obtain ⟨rfl, hH, hP, hK, hB0, hE⟩ := hv
  subst hH
  have hx := B.exec
  have hb := B.bytes
  have hr := B.returns
  have hts := atoms_spec (ws := (wz yX5_nearestFree cX5_nearestFree 2 (some .int))) B.pre
  have hown : s.vm.findClass RX5 = some m.cls := findClass_of_methodNamed B.named
  have hlocks := B.notSynchronized
  have hAB : ∀ q : Nat, s.heap.size ≤ q → B0 ≤ q := fun q h => Nat.le_trans hB0 h
  have hA : ∀ q : Nat, s.heap.size ≤ q → s.heap.size ≤ q := fun _ h => h
  have hS : va_S (fun q => s.heap.size ≤ q) s.heap s.heap [] := va_S.rf
  have hBn := fun (H : Heap) (locs : List Loc) (h : va_S (fun q => s.heap.size ≤ q) s.heap H locs) => Nat.le_trans hB0 h.1
  have hEn := fun (H : Heap) (locs : List Loc) (h : va_S (fun q => s.heap.size ≤ q) s.heap H locs) => gE_now hE h hAB
  have hl := lv_entry ([.ref a0]) (n := 2) (Nat.le_of_ble_eq_true rfl)
  rw [lg_entry_eq]
  generalize (lg_sl ([.ref a0]) ++ List.replicate (2 - (lg_sl ([.ref a0])).length) Slot.unset).toArray = ls at hl ⊢
  have hl : lv_has ls 2 [(0, .ref a0)] := hl
  obtain ⟨H, hHe⟩ : ∃ H : Heap, H = s.heap := ⟨_, rfl⟩
  have hP : va_P D vwCl [oX5 a0 c_lanes c_positions c_room c_gap c_places c_picked a_lot a_pieces a_mark a_byDistance, rI cI a_pieces 48 c_pieces, rI cI a_byDistance 48 c_byDistance] H := by rw [hHe]; exact hP
  have hS : va_S (fun q => s.heap.size ≤ q) s.heap H [] := by rw [hHe]; exact hS
  refine W_heq hHe ?_
  unfold f_X5_nearestFree at hf
  refine gen_go (fun WW hWW => ?_)
  have hL2 : ∀ (n : Nat) (n1 : Int32) (e9 : ((Int32) ⊕ Unit)), loop (fun z => f_X5_nearestFree_L2 c_places c_pieces c_byDistance z) n n1 = some e9 → (∀ (e1 : Int32), e9 = (.inl e1) → ∀ (ls : Array Slot), lv_has ls 2 [(0, .ref a0), (1, .int e1)] → WW (F0 m 23 ls [])) → (e9 = (.inr ()) → ∀ (ls : Array Slot), lv_has ls 2 [] → WW (F0 m 36 ls [])) → ∀ (ls : Array Slot), lv_has ls 2 [(0, .ref a0), (1, .int n1)] → WW (F0 m 2 ls []) := by
    intro n
    induction n with
    | zero =>
      intro n1 e9 hlp
      exact absurd hlp (by simp [loop])
    | succ n ih =>
      intro n1 e9 hlp K0 K1 ls hl
      obtain ⟨x9, hf, hlp⟩ := loop_s hlp
      have hf : f_X5_nearestFree_L2 c_places c_pieces c_byDistance n1 = some x9 := hf
      unfold f_X5_nearestFree_L2 at hf
      refine (hWW _).mpr ?_
      refine lv_iload_n hx hb dX5_nearestFree_2 rfl (lv_at hl 1 rfl) ?_
      refine lv_aload_n hx hb dX5_nearestFree_3 rfl (lv_at hl 0 rfl) ?_
      refine va_get (D := D) (ci := 4) (v := .int c_places) (C := RX5) (T := TX5) (N := 10) hx hb hts (fun w h => mb (iX5 w h)) hown hK hP 0 rfl rfl 4 (by decide) (hts _ (mb tb_48)) (fun _ h9 => h9) rfl dX5_nearestFree_4 ?_
      refine lv_icmp_ge (tgt := 36) hx hb dX5_nearestFree_7 (by decide) (fun h1 => ?_) (fun h1 => ?_)
      · have hf := ipos h1 hf
        obtain rfl := Option.some.inj hf
        cases lpx_r hlp
        exact (hWW _).mp (K1 rfl ls (lv_sub hl [] rfl))
      · have hf := ineg h1 hf
        refine lv_aload_n hx hb dX5_nearestFree_10 rfl (lv_at hl 0 rfl) ?_
        refine lv_aload_n hx hb dX5_nearestFree_11 rfl (lv_at hl 0 rfl) ?_
        refine va_get (D := D) (ci := 4) (v := .ref a_byDistance) (C := RX5) (T := TX5) (N := 10) hx hb hts (fun w h => mb (iX5 w h)) hown hK hP 0 rfl rfl 9 (by decide) (hts _ (mb tb_58)) (fun _ h9 => h9) rfl dX5_nearestFree_12 ?_
        refine lv_iload_n hx hb dX5_nearestFree_15 rfl (lv_at hl 1 rfl) ?_
        obtain ⟨h2, hf⟩ := ob_d hf
        refine va_iald hx hb hK hP 2 0 rfl rfl h2 dX5_nearestFree_16 ?_
        obtain ⟨r3, hc4, hf⟩ := ob1 hf
        refine ro_calli (r := r3) (va_runV (As := [.int (c_byDistance n1.toNatClampNeg)]) (rest := []) ⟨hx, hb, hml, hown, hts⟩ (k_X5_isFree l hl0 D cI cJ cZ cS B0 H a0 a_lot a_pieces a_mark a_byDistance c_lanes c_positions c_room c_gap c_places c_picked c_pieces (c_byDistance n1.toNatClampNeg) r3 hc4) (cwV 1 hts (gV tb_675 tb_676 tb_677 tb_3 tb_678) rfl rfl rfl (by decide +kernel) ⟨Nat.le_of_ble_eq_true rfl, Nat.le_of_ble_eq_true rfl⟩) ⟨rp_blind, va_recv hK hP (ci := 4) (q0 := 0) rfl rfl, rp_pre (hP.sub [0, 1] rfl) hK (hBn _ _ hS) (hEn _ _ hS)⟩ rfl rfl hl.1 rfl (lv_room (Nat.le_of_ble_eq_true rfl)) dX5_nearestFree_17 ⟨Nat.le_of_ble_eq_true rfl, Nat.le_of_ble_eq_true rfl⟩) ?_
        refine lv_if_eq (tgt := 30) hx hb dX5_nearestFree_20 (by decide) (fun h5 => ?_) (fun h5 => ?_)
        · have hf := ipos h5 hf
          refine lv_iinc (v := (n1 + 1)) (lv' := [(1, .int (n1 + 1)), (0, .ref a0)]) hx hb dX5_nearestFree_30 hl (k := 1) rfl rfl (by decide) rfl (fun ls hl => ?_)
          refine lv_goto (tgt := 2) hx hb dX5_nearestFree_33 (by decide) ?_
          obtain rfl := Option.some.inj hf
          exact (hWW _).mp (ih  _ _ hlp K0 K1 ls (lv_sub hl [1, 0] rfl))
        · have hf := ineg h5 hf
          obtain rfl := Option.some.inj hf
          cases lpx_r hlp
          exact (hWW _).mp (K0 _ rfl ls (lv_sub hl [0, 1] rfl))
  refine (hWW _).mpr ?_
  refine lv_iconst (v := 0) hx hb dX5_nearestFree_0 (by decide) ?_
  refine lv_istore_n (lv' := [(1, .int 0), (0, .ref a0)]) hx hb dX5_nearestFree_1 rfl hl (by decide) rfl (fun ls hl => ?_)
  obtain ⟨e7, hc6, hf⟩ := ob1 hf
  refine (hWW _).mp (hL2 fu _ _ hc6 ?_ ?_ ls (lv_sub hl [1, 0] rfl))
  · intro m8 hz ls hl
    subst hz
    have hf := sel_0_2 hf
    refine (hWW _).mpr ?_
    refine lv_aload_n hx hb dX5_nearestFree_23 rfl (lv_at hl 0 rfl) ?_
    refine va_get (D := D) (ci := 4) (v := .ref a_byDistance) (C := RX5) (T := TX5) (N := 10) hx hb hts (fun w h => mb (iX5 w h)) hown hK hP 0 rfl rfl 9 (by decide) (hts _ (mb tb_58)) (fun _ h9 => h9) rfl dX5_nearestFree_24 ?_
    refine lv_iload_n hx hb dX5_nearestFree_27 rfl (lv_at hl 1 rfl) ?_
    obtain ⟨h9, hf⟩ := ob_d hf
    refine va_iald hx hb hK hP 2 0 rfl rfl h9 dX5_nearestFree_28 ?_
    cases hf
    exact W.iret hx hb hr (fun t ht hW => ⟨⟨_, (), rfl, rfl, (ht.trans hHe)⟩, hS.F ht⟩) hS.2.2 dX5_nearestFree_29
  · intro  hz ls hl
    subst hz
    have hf := sel_1_2 hf
    refine (hWW _).mpr ?_
    refine lv_iconst (v := (-1)) hx hb dX5_nearestFree_36 (by decide) ?_
    cases hf
    exact W.iret hx hb hr (fun t ht hW => ⟨⟨_, (), rfl, rfl, (ht.trans hHe)⟩, hS.F ht⟩) hS.2.2 dX5_nearestFree_37
def f_X5_distanceOf (v1 : Int32) (c_positions : Int32) (c_gap : Int32) : Option (Int32) :=
  (if 1 ≤ c_positions then gz c_positions (gz c_positions (some (((c_gap * (v1 / c_positions)) + (v1 - v1 / c_positions * c_positions)) + 1)))
  else some 0)
set_option maxHeartbeats 4000000 in
set_option maxRecDepth 100000 in
theorem k_X5_distanceOf (l : Launch) (hl0 : l.stackTraces = false) (D : va_G) (cI cJ cZ cS : ClassId) (B0 : Nat) (H0 : Heap) (a0 a_lot a_pieces a_mark a_byDistance : Nat) (c_lanes : Int32) (c_positions : Int32) (c_room : Int32) (c_gap : Int32) (c_places : Int32) (c_picked : Int64) (v1 : Int32) (r9 : Int32)  (hf : f_X5_distanceOf v1 c_positions c_gap = some r9) : Met l yX5_distanceOf (wz yX5_distanceOf cX5_distanceOf 2 (some .int)) ({ frames := 0, cells := 0, slots := 0, locals := 0 }) (va_Pc [.ref a0, .int v1] (rp D cI cJ cZ cS B0 [oX5 a0 c_lanes c_positions c_room c_gap c_places c_picked a_lot a_pieces a_mark a_byDistance] H0)) (va_Qi (fun (r2 : Int32) (_ : Unit) => r2 = r9) (fun _ t => t.heap = H0) (fun q => H0.size ≤ q)) 0 0 (fun q => H0.size ≤ q) := by
  refine Met.ofW (cc := cX5_distanceOf) (maxL := 2) (ret := (some .int)) (by decide) rfl ?_
  intro p e s m args below meth c s₁ B hml hv
  obtain ⟨rfl, hH, hP, hK, hB0, hE⟩ := hv
  subst hH
  have hx := B.exec
  have hb := B.bytes
  have hr := B.returns
  have hts := atoms_spec (ws := (wz yX5_distanceOf cX5_distanceOf 2 (some .int))) B.pre
  have hown : s.vm.findClass RX5 = some m.cls := findClass_of_methodNamed B.named
  have hlocks := B.notSynchronized
  have hAB : ∀ q : Nat, s.heap.size ≤ q → B0 ≤ q := fun q h => Nat.le_trans hB0 h
  have hA : ∀ q : Nat, s.heap.size ≤ q → s.heap.size ≤ q := fun _ h => h
  have hS : va_S (fun q => s.heap.size ≤ q) s.heap s.heap [] := va_S.rf
  have hBn := fun (H : Heap) (locs : List Loc) (h : va_S (fun q => s.heap.size ≤ q) s.heap H locs) => Nat.le_trans hB0 h.1
  have hEn := fun (H : Heap) (locs : List Loc) (h : va_S (fun q => s.heap.size ≤ q) s.heap H locs) => gE_now hE h hAB
  have hl := lv_entry ([.ref a0, .int v1]) (n := 2) (Nat.le_of_ble_eq_true rfl)
  rw [lg_entry_eq]
  generalize (lg_sl ([.ref a0, .int v1]) ++ List.replicate (2 - (lg_sl ([.ref a0, .int v1])).length) Slot.unset).toArray = ls at hl ⊢
  have hl : lv_has ls 2 [(0, .ref a0), (1, .int v1)] := hl
  obtain ⟨H, hHe⟩ : ∃ H : Heap, H = s.heap := ⟨_, rfl⟩
  have hP : va_P D vwCl [oX5 a0 c_lanes c_positions c_room c_gap c_places c_picked a_lot a_pieces a_mark a_byDistance] H := by rw [hHe]; exact hP
  have hS : va_S (fun q => s.heap.size ≤ q) s.heap H [] := by rw [hHe]; exact hS
  refine W_heq hHe ?_
  unfold f_X5_distanceOf at hf
  refine lv_aload_n hx hb dX5_distanceOf_0 rfl (lv_at hl 0 rfl) ?_
  refine va_get (D := D) (ci := 4) (v := .int c_positions) (C := RX5) (T := TX5) (N := 10) hx hb hts (fun w h => mb (iX5 w h)) hown hK hP 0 rfl rfl 1 (by decide) (hts _ (mb tb_42)) (fun _ h9 => h9) rfl dX5_distanceOf_1 ?_
  refine lv_iconst (v := 1) hx hb dX5_distanceOf_4 (by decide) ?_
  refine lv_icmp_ge (tgt := 12) hx hb dX5_distanceOf_5 (by decide) (fun h1 => ?_) (fun h1 => ?_)
  · have hf := ipos h1 hf
    refine lv_aload_n hx hb dX5_distanceOf_12 rfl (lv_at hl 0 rfl) ?_
    refine va_get (D := D) (ci := 4) (v := .int c_gap) (C := RX5) (T := TX5) (N := 10) hx hb hts (fun w h => mb (iX5 w h)) hown hK hP 0 rfl rfl 3 (by decide) (hts _ (mb tb_46)) (fun _ h9 => h9) rfl dX5_distanceOf_13 ?_
    refine lv_iload_n hx hb dX5_distanceOf_16 rfl (lv_at hl 1 rfl) ?_
    refine lv_aload_n hx hb dX5_distanceOf_17 rfl (lv_at hl 0 rfl) ?_
    refine va_get (D := D) (ci := 4) (v := .int c_positions) (C := RX5) (T := TX5) (N := 10) hx hb hts (fun w h => mb (iX5 w h)) hown hK hP 0 rfl rfl 1 (by decide) (hts _ (mb tb_42)) (fun _ h9 => h9) rfl dX5_distanceOf_18 ?_
    obtain ⟨h2, hf⟩ := ob_z hf
    refine lv_idiv hx hb dX5_distanceOf_21 h2 ?_
    refine lv_imul hx hb dX5_distanceOf_22 ?_
    refine lv_iload_n hx hb dX5_distanceOf_23 rfl (lv_at hl 1 rfl) ?_
    refine lv_aload_n hx hb dX5_distanceOf_24 rfl (lv_at hl 0 rfl) ?_
    refine va_get (D := D) (ci := 4) (v := .int c_positions) (C := RX5) (T := TX5) (N := 10) hx hb hts (fun w h => mb (iX5 w h)) hown hK hP 0 rfl rfl 1 (by decide) (hts _ (mb tb_42)) (fun _ h9 => h9) rfl dX5_distanceOf_25 ?_
    obtain ⟨h3, hf⟩ := ob_z hf
    refine lv_irem hx hb dX5_distanceOf_28 h3 ?_
    refine lv_iadd hx hb dX5_distanceOf_29 ?_
    refine lv_iconst (v := 1) hx hb dX5_distanceOf_30 (by decide) ?_
    refine lv_iadd hx hb dX5_distanceOf_31 ?_
    cases hf
    exact W.iret hx hb hr (fun t ht hW => ⟨⟨_, (), rfl, rfl, (ht.trans hHe)⟩, hS.F ht⟩) hS.2.2 dX5_distanceOf_32
  · have hf := ineg h1 hf
    refine lv_iconst (v := 0) hx hb dX5_distanceOf_8 (by decide) ?_
    refine lv_goto (tgt := 32) hx hb dX5_distanceOf_9 (by decide) ?_
    cases hf
    exact W.iret hx hb hr (fun t ht hW => ⟨⟨_, (), rfl, rfl, (ht.trans hHe)⟩, hS.F ht⟩) hS.2.2 dX5_distanceOf_32
def f_X5_set_J22 (n1 : Int32) (n3 : Int32) (n4 : Int32) (t1 : Int32) (t2 : Int32) (c_places : Int32) (c_lot : Nat → Int32) (c_pieces : Nat → Int32) (c_mark : Nat → Int32) : Option ((Nat → Int32) × (Nat → Int32) × (Nat → Int32)) :=
  gd t1 48 (gd n1 48 (gd n1 48 (some (upd c_lot t1.toNatClampNeg t2, upd c_pieces n1.toNatClampNeg n3, upd c_mark n1.toNatClampNeg n4))))
def f_X5_set (v1 : Int32) (v2 : Int32) (v3 : Int32) (v4 : Int32) (c_places : Int32) (c_lot : Nat → Int32) (c_pieces : Nat → Int32) (c_mark : Nat → Int32) : Option ((Nat → Int32) × (Nat → Int32) × (Nat → Int32)) :=
  bnd1 (f_X5_exists v1 c_places) (fun r1 =>
  ((if r1 = 0 then some (c_lot, c_pieces, c_mark)
  else (if v3 = 0 then f_X5_set_J22 v1 v3 v4 v1 (-1) c_places c_lot c_pieces c_mark
  else f_X5_set_J22 v1 v3 v4 v1 v2 c_places c_lot c_pieces c_mark))))
set_option maxHeartbeats 4000000 in
set_option maxRecDepth 100000 in
theorem k_X5_set (l : Launch) (hl0 : l.stackTraces = false) (D : va_G) (cI cJ cZ cS : ClassId) (B0 : Nat) (sz : Nat) (a0 a_lot a_pieces a_mark a_byDistance : Nat) (c_lanes : Int32) (c_positions : Int32) (c_room : Int32) (c_gap : Int32) (c_places : Int32) (c_picked : Int64) (c_lot : Nat → Int32) (c_pieces : Nat → Int32) (c_mark : Nat → Int32) (v1 : Int32) (v2 : Int32) (v3 : Int32) (v4 : Int32) (oc_lot : Nat → Int32) (oc_pieces : Nat → Int32) (oc_mark : Nat → Int32)  (hf : f_X5_set v1 v2 v3 v4 c_places c_lot c_pieces c_mark = some (oc_lot, oc_pieces, oc_mark)) : Met l yX5_set (wz yX5_set cX5_set 5 none) ({ frames := 1, cells := 0, slots := 0, locals := 21 }) (va_Pc [.ref a0, .int v1, .int v2, .int v3, .int v4] (wp D cI cJ cZ cS B0 [oX5 a0 c_lanes c_positions c_room c_gap c_places c_picked a_lot a_pieces a_mark a_byDistance, rI cI a_lot 48 c_lot, rI cI a_pieces 48 c_pieces, rI cI a_mark 48 c_mark] sz)) (va_Qv (fun (_ : Unit) => True) (fun _ t => va_P D vwCl [oX5 a0 c_lanes c_positions c_room c_gap c_places c_picked a_lot a_pieces a_mark a_byDistance, rI cI a_lot 48 oc_lot, rI cI a_pieces 48 oc_pieces, rI cI a_mark 48 oc_mark] t.heap) (va_A [oX5 a0 c_lanes c_positions c_room c_gap c_places c_picked a_lot a_pieces a_mark a_byDistance, rI cI a_lot 48 c_lot, rI cI a_pieces 48 c_pieces, rI cI a_mark 48 c_mark] sz)) 0 0 (va_A [oX5 a0 c_lanes c_positions c_room c_gap c_places c_picked a_lot a_pieces a_mark a_byDistance, rI cI a_lot 48 c_lot, rI cI a_pieces 48 c_pieces, rI cI a_mark 48 c_mark] sz) := by
  refine Met.ofW (cc := cX5_set) (maxL := 5) (ret := none) (by decide) rfl ?_
  intro p e s m args below meth c s₁ B hml hv
  obtain ⟨rfl, hsz, hP, hK, hD0, hB0, hE⟩ := hv
  subst hsz
  have hx := B.exec
  have hb := B.bytes
  have hr := B.returns
  have hts := atoms_spec (ws := (wz yX5_set cX5_set 5 none)) B.pre
  have hown : s.vm.findClass RX5 = some m.cls := findClass_of_methodNamed B.named
  have hlocks := B.notSynchronized
  have hD := hD0.self (sz := s.heap.size)
  have hAB : ∀ q : Nat, va_A [oX5 a0 c_lanes c_positions c_room c_gap c_places c_picked a_lot a_pieces a_mark a_byDistance, rI cI a_lot 48 c_lot, rI cI a_pieces 48 c_pieces, rI cI a_mark 48 c_mark] s.heap.size q → B0 ≤ q := va_A_B hD0 hB0
  generalize hAe : va_A [oX5 a0 c_lanes c_positions c_room c_gap c_places c_picked a_lot a_pieces a_mark a_byDistance, rI cI a_lot 48 c_lot, rI cI a_pieces 48 c_pieces, rI cI a_mark 48 c_mark] s.heap.size = A at hD hAB ⊢
  have hA : ∀ q : Nat, s.heap.size ≤ q → A q := fun q h => by rw [← hAe]; exact Or.inr h
  have hFa := hA
  have hS : va_S A s.heap s.heap [] := va_S.rf
  have hBn := fun (H : Heap) (locs : List Loc) (h : va_S A s.heap H locs) => Nat.le_trans hB0 h.1
  have hEn := fun (H : Heap) (locs : List Loc) (h : va_S A s.heap H locs) => gE_now hE h hAB
  have hl := lv_entry ([.ref a0, .int v1, .int v2, .int v3, .int v4]) (n := 5) (Nat.le_of_ble_eq_true rfl)
  rw [lg_entry_eq]
  generalize (lg_sl ([.ref a0, .int v1, .int v2, .int v3, .int v4]) ++ List.replicate (5 - (lg_sl ([.ref a0, .int v1, .int v2, .int v3, .int v4])).length) Slot.unset).toArray = ls at hl ⊢
  have hl : lv_has ls 5 [(0, .ref a0), (1, .int v1), (2, .int v2), (3, .int v3), (4, .int v4)] := hl
  obtain ⟨H, hHe⟩ : ∃ H : Heap, H = s.heap := ⟨_, rfl⟩
  have hP : va_P D vwCl [oX5 a0 c_lanes c_positions c_room c_gap c_places c_picked a_lot a_pieces a_mark a_byDistance, rI cI a_lot 48 c_lot, rI cI a_pieces 48 c_pieces, rI cI a_mark 48 c_mark] H := by rw [hHe]; exact hP
  have hS : va_S A s.heap H [] := by rw [hHe]; exact hS
  refine W_heq hHe ?_
  unfold f_X5_set at hf
  refine gen_goW (fun WW hWW => ?_)
  have hJ22 : ∀ (n1 : Int32) (n3 : Int32) (n4 : Int32) (t1 : Int32) (t2 : Int32) (c_lot : Nat → Int32) (c_pieces : Nat → Int32) (c_mark : Nat → Int32), f_X5_set_J22 n1 n3 n4 t1 t2 c_places c_lot c_pieces c_mark = some (oc_lot, oc_pieces, oc_mark) → ∀ (H : Heap) (locs : List Loc) (ls : Array Slot), va_P D vwCl [oX5 a0 c_lanes c_positions c_room c_gap c_places c_picked a_lot a_pieces a_mark a_byDistance, rI cI a_lot 48 c_lot, rI cI a_pieces 48 c_pieces, rI cI a_mark 48 c_mark] H → va_D A [oX5 a0 c_lanes c_positions c_room c_gap c_places c_picked a_lot a_pieces a_mark a_byDistance, rI cI a_lot 48 c_lot, rI cI a_pieces 48 c_pieces, rI cI a_mark 48 c_mark] → va_S A s.heap H locs → lv_has ls 5 [(0, .ref a0), (1, .int n1), (3, .int n3), (4, .int n4)] → WW H locs 0 0 (F0 m 22 ls [.int t2, .int t1, .ref a_lot]) := by
    intro n1 n3 n4 t1 t2 c_lot c_pieces c_mark hf H locs ls hP hD hS hl
    unfold f_X5_set_J22 at hf
    refine (hWW _ _ _ _ _).mpr ?_
    obtain ⟨h5, hf⟩ := ob_d hf
    refine va_iast hx hb hK hP hD hS 1 0 rfl rfl h5 dX5_set_22 (fun H locs hP hD hS => ?_)
    have hP : va_P D vwCl [oX5 a0 c_lanes c_positions c_room c_gap c_places c_picked a_lot a_pieces a_mark a_byDistance, rI cI a_lot 48 (upd c_lot t1.toNatClampNeg t2), rI cI a_pieces 48 c_pieces, rI cI a_mark 48 c_mark] H := hP
    have hD : va_D A [oX5 a0 c_lanes c_positions c_room c_gap c_places c_picked a_lot a_pieces a_mark a_byDistance, rI cI a_lot 48 (upd c_lot t1.toNatClampNeg t2), rI cI a_pieces 48 c_pieces, rI cI a_mark 48 c_mark] := hD
    refine lv_aload_n hx hb dX5_set_23 rfl (lv_at hl 0 rfl) ?_
    refine va_get (D := D) (ci := 4) (v := .ref a_pieces) (C := RX5) (T := TX5) (N := 10) hx hb hts (fun w h => mb (iX5 w h)) hown hK hP 0 rfl rfl 7 (by decide) (hts _ (mb tb_54)) (fun _ h9 => h9) rfl dX5_set_24 ?_
    refine lv_iload_n hx hb dX5_set_27 rfl (lv_at hl 1 rfl) ?_
    refine lv_iload_n hx hb dX5_set_28 rfl (lv_at hl 2 rfl) ?_
    obtain ⟨h6, hf⟩ := ob_d hf
    refine va_iast hx hb hK hP hD hS 2 0 rfl rfl h6 dX5_set_29 (fun H locs hP hD hS => ?_)
    have hP : va_P D vwCl [oX5 a0 c_lanes c_positions c_room c_gap c_places c_picked a_lot a_pieces a_mark a_byDistance, rI cI a_lot 48 (upd c_lot t1.toNatClampNeg t2), rI cI a_pieces 48 (upd c_pieces n1.toNatClampNeg n3), rI cI a_mark 48 c_mark] H := hP
    have hD : va_D A [oX5 a0 c_lanes c_positions c_room c_gap c_places c_picked a_lot a_pieces a_mark a_byDistance, rI cI a_lot 48 (upd c_lot t1.toNatClampNeg t2), rI cI a_pieces 48 (upd c_pieces n1.toNatClampNeg n3), rI cI a_mark 48 c_mark] := hD
    refine lv_aload_n hx hb dX5_set_30 rfl (lv_at hl 0 rfl) ?_
    refine va_get (D := D) (ci := 4) (v := .ref a_mark) (C := RX5) (T := TX5) (N := 10) hx hb hts (fun w h => mb (iX5 w h)) hown hK hP 0 rfl rfl 8 (by decide) (hts _ (mb tb_56)) (fun _ h9 => h9) rfl dX5_set_31 ?_
    refine lv_iload_n hx hb dX5_set_34 rfl (lv_at hl 1 rfl) ?_
    refine lv_iload hx hb dX5_set_35 (lv_at hl 3 rfl) ?_
    obtain ⟨h7, hf⟩ := ob_d hf
    refine va_iast hx hb hK hP hD hS 3 0 rfl rfl h7 dX5_set_37 (fun H locs hP hD hS => ?_)
    have hP : va_P D vwCl [oX5 a0 c_lanes c_positions c_room c_gap c_places c_picked a_lot a_pieces a_mark a_byDistance, rI cI a_lot 48 (upd c_lot t1.toNatClampNeg t2), rI cI a_pieces 48 (upd c_pieces n1.toNatClampNeg n3), rI cI a_mark 48 (upd c_mark n1.toNatClampNeg n4)] H := hP
    have hD : va_D A [oX5 a0 c_lanes c_positions c_room c_gap c_places c_picked a_lot a_pieces a_mark a_byDistance, rI cI a_lot 48 (upd c_lot t1.toNatClampNeg t2), rI cI a_pieces 48 (upd c_pieces n1.toNatClampNeg n3), rI cI a_mark 48 (upd c_mark n1.toNatClampNeg n4)] := hD
    cases hf
    refine W.widen (k := 0) (n := 0) (Nat.le_of_ble_eq_true rfl) (Nat.le_of_ble_eq_true rfl) ?_
    exact W.vret hx hb hr (fun t ht hW => ⟨⟨(), rfl, trivial, (by show va_P D vwCl _ t.heap; rw [ht]; exact hP)⟩, hS.F ht⟩) hS.2.2 dX5_set_38
  refine (hWW _ _ _ _ _).mpr ?_
  refine lv_aload_n hx hb dX5_set_0 rfl (lv_at hl 0 rfl) ?_
  refine lv_iload_n hx hb dX5_set_1 rfl (lv_at hl 1 rfl) ?_
  obtain ⟨r1, hc2, hf⟩ := ob1 hf
  refine ro_calli (r := r1) (va_runV (As := [.int v1]) (rest := []) ⟨hx, hb, hml, hown, hts⟩ (k_X5_exists l hl0 D cI cJ cZ cS B0 H a0 a_lot a_pieces a_mark a_byDistance c_lanes c_positions c_room c_gap c_places c_picked v1 r1 hc2) (cwV 1 hts (gV tb_258 tb_259 tb_260 tb_3 tb_261) rfl rfl rfl (by decide +kernel) ⟨Nat.le_of_ble_eq_true rfl, Nat.le_of_ble_eq_true rfl⟩) ⟨rp_blind, va_recv hK hP (ci := 4) (q0 := 0) rfl rfl, rp_pre (hP.sub [0] rfl) hK (hBn _ _ hS) (hEn _ _ hS)⟩ rfl rfl hl.1 rfl (lv_room (Nat.le_of_ble_eq_true rfl)) dX5_set_2 ⟨Nat.le_of_ble_eq_true rfl, Nat.le_of_ble_eq_true rfl⟩) ?_
  refine lv_if_eq (tgt := 38) hx hb dX5_set_5 (by decide) (fun h3 => ?_) (fun h3 => ?_)
  · have hf := ipos h3 hf
    cases hf
    refine W.widen (k := 0) (n := 0) (Nat.le_of_ble_eq_true rfl) (Nat.le_of_ble_eq_true rfl) ?_
    exact W.vret hx hb hr (fun t ht hW => ⟨⟨(), rfl, trivial, (by show va_P D vwCl _ t.heap; rw [ht]; exact hP)⟩, hS.F ht⟩) hS.2.2 dX5_set_38
  · have hf := ineg h3 hf
    refine lv_aload_n hx hb dX5_set_8 rfl (lv_at hl 0 rfl) ?_
    refine va_get (D := D) (ci := 4) (v := .ref a_lot) (C := RX5) (T := TX5) (N := 10) hx hb hts (fun w h => mb (iX5 w h)) hown hK hP 0 rfl rfl 6 (by decide) (hts _ (mb tb_52)) (fun _ h9 => h9) rfl dX5_set_9 ?_
    refine lv_iload_n hx hb dX5_set_12 rfl (lv_at hl 1 rfl) ?_
    refine lv_iload_n hx hb dX5_set_13 rfl (lv_at hl 3 rfl) ?_
    refine lv_if_ne (tgt := 21) hx hb dX5_set_14 (by decide) (fun h4 => ?_) (fun h4 => ?_)
    · have hf := ineg h4 hf
      refine lv_iload_n hx hb dX5_set_21 rfl (lv_at hl 2 rfl) ?_
      exact (hWW _ _ _ _ _).mp (hJ22 _ _ _ _ _ _ _ _ hf _ _ ls hP hD hS (lv_sub hl [0, 1, 3, 4] rfl))
    · have hf := ipos h4 hf
      refine lv_iconst (v := (-1)) hx hb dX5_set_17 (by decide) ?_
      refine lv_goto (tgt := 22) hx hb dX5_set_18 (by decide) ?_
      exact (hWW _ _ _ _ _).mp (hJ22 _ _ _ _ _ _ _ _ hf _ _ ls hP hD hS (lv_sub hl [0, 1, 3, 4] rfl))
def f_X5_putAway_L6_J66 (n1 : Int32) (n3 : Int32) (n4 : Int32) (n5 : Int32) (c_room : Int32) (c_places : Int32) (c_lot : Nat → Int32) (c_pieces : Nat → Int32) (c_mark : Nat → Int32) (c_byDistance : Nat → Int32) : Option ((Int32 × Int32 × (Nat → Int32) × (Nat → Int32) × (Nat → Int32)) ⊕ ((Nat → Int32) × (Nat → Int32) × (Nat → Int32))) :=
  some (.inl (n4, n5 + 1, c_lot, c_pieces, c_mark))
def f_X5_putAway_L6 (n1 : Int32) (n3 : Int32) (c_room : Int32) (c_places : Int32) (c_byDistance : Nat → Int32) (n4 : Int32) (n5 : Int32) (c_lot : Nat → Int32) (c_pieces : Nat → Int32) (c_mark : Nat → Int32) : Option ((Int32 × Int32 × (Nat → Int32) × (Nat → Int32) × (Nat → Int32)) ⊕ ((Nat → Int32) × (Nat → Int32) × (Nat → Int32))) :=
  (if c_places ≤ n5 then some (.inr (c_lot, c_pieces, c_mark))
  else (if n4 ≤ 0 then some (.inr (c_lot, c_pieces, c_mark))
  else gd n5 48 (bnd1 (f_X5_isFree (c_byDistance n5.toNatClampNeg) c_places c_pieces) (fun r4 =>
  ((if r4 = 0 then f_X5_putAway_L6_J66 n1 n3 n4 n5 c_room c_places c_lot c_pieces c_mark c_byDistance
  else bnd3 (f_X5_set (c_byDistance n5.toNatClampNeg) n1 (if c_room < n4 then c_room else n4) n3 c_places c_lot c_pieces c_mark) (fun o9 o10 o11 =>
  (f_X5_putAway_L6_J66 n1 n3 (n4 - (if c_room < n4 then c_room else n4)) n5 c_room c_places o9 o10 o11 c_byDistance))))))))
def f_X5_putAway (v1 : Int32) (v2 : Int32) (v3 : Int32) (c_room : Int32) (c_places : Int32) (c_lot : Nat → Int32) (c_pieces : Nat → Int32) (c_mark : Nat → Int32) (c_byDistance : Nat → Int32) : Option ((Nat → Int32) × (Nat → Int32) × (Nat → Int32)) :=
  (bnd3 (loop (fun z => f_X5_putAway_L6 v1 v3 c_room c_places c_byDistance z.1 z.2.1 z.2.2.1 z.2.2.2.1 z.2.2.2.2) fu (v2, 0, c_lot, c_pieces, c_mark)) fun c13 c14 c15 =>
  some (c13, c14, c15))
set_option maxHeartbeats 4000000 in
set_option maxRecDepth 100000 in
theorem k_X5_putAway (l : Launch) (hl0 : l.stackTraces = false) (D : va_G) (cI cJ cZ cS : ClassId) (B0 : Nat) (sz : Nat) (a0 a_lot a_pieces a_mark a_byDistance : Nat) (c_lanes : Int32) (c_positions : Int32) (c_room : Int32) (c_gap : Int32) (c_places : Int32) (c_picked : Int64) (c_lot : Nat → Int32) (c_pieces : Nat → Int32) (c_mark : Nat → Int32) (c_byDistance : Nat → Int32) (v1 : Int32) (v2 : Int32) (v3 : Int32) (oc_lot : Nat → Int32) (oc_pieces : Nat → Int32) (oc_mark : Nat → Int32)  (hf : f_X5_putAway v1 v2 v3 c_room c_places c_lot c_pieces c_mark c_byDistance = some (oc_lot, oc_pieces, oc_mark)) : Met l yX5_putAway (wz yX5_putAway cX5_putAway 8 none) ({ frames := 2, cells := 0, slots := 0, locals := 45 }) (va_Pc [.ref a0, .int v1, .int v2, .int v3] (wp D cI cJ cZ cS B0 [oX5 a0 c_lanes c_positions c_room c_gap c_places c_picked a_lot a_pieces a_mark a_byDistance, rI cI a_lot 48 c_lot, rI cI a_pieces 48 c_pieces, rI cI a_mark 48 c_mark, rI cI a_byDistance 48 c_byDistance] sz)) (va_Qv (fun (_ : Unit) => True) (fun _ t => va_P D vwCl [oX5 a0 c_lanes c_positions c_room c_gap c_places c_picked a_lot a_pieces a_mark a_byDistance, rI cI a_lot 48 oc_lot, rI cI a_pieces 48 oc_pieces, rI cI a_mark 48 oc_mark, rI cI a_byDistance 48 c_byDistance] t.heap) (va_A [oX5 a0 c_lanes c_positions c_room c_gap c_places c_picked a_lot a_pieces a_mark a_byDistance, rI cI a_lot 48 c_lot, rI cI a_pieces 48 c_pieces, rI cI a_mark 48 c_mark, rI cI a_byDistance 48 c_byDistance] sz)) 0 0 (va_A [oX5 a0 c_lanes c_positions c_room c_gap c_places c_picked a_lot a_pieces a_mark a_byDistance, rI cI a_lot 48 c_lot, rI cI a_pieces 48 c_pieces, rI cI a_mark 48 c_mark, rI cI a_byDistance 48 c_byDistance] sz) := by
  refine Met.ofW (cc := cX5_putAway) (maxL := 8) (ret := none) (by decide) rfl ?_
  intro p e s m args below meth c s₁ B hml hv
  obtain ⟨rfl, hsz, hP, hK, hD0, hB0, hE⟩ := hv
  subst hsz
  have hx := B.exec
  have hb := B.bytes
  have hr := B.returns
  have hts := atoms_spec (ws := (wz yX5_putAway cX5_putAway 8 none)) B.pre
  have hown : s.vm.findClass RX5 = some m.cls := findClass_of_methodNamed B.named
  have hlocks := B.notSynchronized
  have hD := hD0.self (sz := s.heap.size)
  have hAB : ∀ q : Nat, va_A [oX5 a0 c_lanes c_positions c_room c_gap c_places c_picked a_lot a_pieces a_mark a_byDistance, rI cI a_lot 48 c_lot, rI cI a_pieces 48 c_pieces, rI cI a_mark 48 c_mark, rI cI a_byDistance 48 c_byDistance] s.heap.size q → B0 ≤ q := va_A_B hD0 hB0
  generalize hAe : va_A [oX5 a0 c_lanes c_positions c_room c_gap c_places c_picked a_lot a_pieces a_mark a_byDistance, rI cI a_lot 48 c_lot, rI cI a_pieces 48 c_pieces, rI cI a_mark 48 c_mark, rI cI a_byDistance 48 c_byDistance] s.heap.size = A at hD hAB ⊢
  have hA : ∀ q : Nat, s.heap.size ≤ q → A q := fun q h => by rw [← hAe]; exact Or.inr h
  have hFa := hA
  have hS : va_S A s.heap s.heap [] := va_S.rf
  have hBn := fun (H : Heap) (locs : List Loc) (h : va_S A s.heap H locs) => Nat.le_trans hB0 h.1
  have hEn := fun (H : Heap) (locs : List Loc) (h : va_S A s.heap H locs) => gE_now hE h hAB
  have hl := lv_entry ([.ref a0, .int v1, .int v2, .int v3]) (n := 8) (Nat.le_of_ble_eq_true rfl)
  rw [lg_entry_eq]
  generalize (lg_sl ([.ref a0, .int v1, .int v2, .int v3]) ++ List.replicate (8 - (lg_sl ([.ref a0, .int v1, .int v2, .int v3])).length) Slot.unset).toArray = ls at hl ⊢
  have hl : lv_has ls 8 [(0, .ref a0), (1, .int v1), (2, .int v2), (3, .int v3)] := hl
  obtain ⟨H, hHe⟩ : ∃ H : Heap, H = s.heap := ⟨_, rfl⟩
  have hP : va_P D vwCl [oX5 a0 c_lanes c_positions c_room c_gap c_places c_picked a_lot a_pieces a_mark a_byDistance, rI cI a_lot 48 c_lot, rI cI a_pieces 48 c_pieces, rI cI a_mark 48 c_mark, rI cI a_byDistance 48 c_byDistance] H := by rw [hHe]; exact hP
  have hS : va_S A s.heap H [] := by rw [hHe]; exact hS
  refine W_heq hHe ?_
  unfold f_X5_putAway at hf
  refine gen_goW (fun WW hWW => ?_)
  have hL6 : ∀ (n : Nat) (n1 : Int32) (n3 : Int32) (n4 : Int32) (n5 : Int32) (c_lot : Nat → Int32) (c_pieces : Nat → Int32) (c_mark : Nat → Int32) (e_c_lot : Nat → Int32) (e_c_pieces : Nat → Int32) (e_c_mark : Nat → Int32), loop (fun z => f_X5_putAway_L6 n1 n3 c_room c_places c_byDistance z.1 z.2.1 z.2.2.1 z.2.2.2.1 z.2.2.2.2) n (n4, n5, c_lot, c_pieces, c_mark) = some (e_c_lot, e_c_pieces, e_c_mark) → (∀ (H : Heap) (locs : List Loc) (ls : Array Slot), va_P D vwCl [oX5 a0 c_lanes c_positions c_room c_gap c_places c_picked a_lot a_pieces a_mark a_byDistance, rI cI a_lot 48 e_c_lot, rI cI a_pieces 48 e_c_pieces, rI cI a_mark 48 e_c_mark, rI cI a_byDistance 48 c_byDistance] H → va_D A [oX5 a0 c_lanes c_positions c_room c_gap c_places c_picked a_lot a_pieces a_mark a_byDistance, rI cI a_lot 48 e_c_lot, rI cI a_pieces 48 e_c_pieces, rI cI a_mark 48 e_c_mark, rI cI a_byDistance 48 c_byDistance] → va_S A s.heap H locs → lv_has ls 8 [] → WW H locs 0 0 (F0 m 72 ls [])) → ∀ (H : Heap) (locs : List Loc) (ls : Array Slot), va_P D vwCl [oX5 a0 c_lanes c_positions c_room c_gap c_places c_picked a_lot a_pieces a_mark a_byDistance, rI cI a_lot 48 c_lot, rI cI a_pieces 48 c_pieces, rI cI a_mark 48 c_mark, rI cI a_byDistance 48 c_byDistance] H → va_D A [oX5 a0 c_lanes c_positions c_room c_gap c_places c_picked a_lot a_pieces a_mark a_byDistance, rI cI a_lot 48 c_lot, rI cI a_pieces 48 c_pieces, rI cI a_mark 48 c_mark, rI cI a_byDistance 48 c_byDistance] → va_S A s.heap H locs → lv_has ls 8 [(0, .ref a0), (1, .int n1), (3, .int n3), (4, .int n4), (5, .int n5)] → WW H locs 0 0 (F0 m 6 ls []) := by
    intro n
    induction n with
    | zero =>
      intro n1 n3 n4 n5 c_lot c_pieces c_mark e_c_lot e_c_pieces e_c_mark hlp
      exact absurd hlp (by simp [loop])
    | succ n ih =>
      intro n1 n3 n4 n5 c_lot c_pieces c_mark e_c_lot e_c_pieces e_c_mark hlp K H locs ls hP hD hS hl
      obtain ⟨x9, hf, hlp⟩ := loop_s hlp
      have hf : f_X5_putAway_L6 n1 n3 c_room c_places c_byDistance n4 n5 c_lot c_pieces c_mark = some x9 := hf
      unfold f_X5_putAway_L6 at hf
      have hJ66 : ∀ (n4 : Int32) (n5 : Int32) (c_lot : Nat → Int32) (c_pieces : Nat → Int32) (c_mark : Nat → Int32), f_X5_putAway_L6_J66 n1 n3 n4 n5 c_room c_places c_lot c_pieces c_mark c_byDistance = some x9 → ∀ (H : Heap) (locs : List Loc) (ls : Array Slot), va_P D vwCl [oX5 a0 c_lanes c_positions c_room c_gap c_places c_picked a_lot a_pieces a_mark a_byDistance, rI cI a_lot 48 c_lot, rI cI a_pieces 48 c_pieces, rI cI a_mark 48 c_mark, rI cI a_byDistance 48 c_byDistance] H → va_D A [oX5 a0 c_lanes c_positions c_room c_gap c_places c_picked a_lot a_pieces a_mark a_byDistance, rI cI a_lot 48 c_lot, rI cI a_pieces 48 c_pieces, rI cI a_mark 48 c_mark, rI cI a_byDistance 48 c_byDistance] → va_S A s.heap H locs → lv_has ls 8 [(0, .ref a0), (1, .int n1), (3, .int n3), (4, .int n4), (5, .int n5)] → WW H locs 0 0 (F0 m 66 ls []) := by
        intro n4 n5 c_lot c_pieces c_mark hf H locs ls hP hD hS hl
        unfold f_X5_putAway_L6_J66 at hf
        refine (hWW _ _ _ _ _).mpr ?_
        refine lv_iinc (v := (n5 + 1)) (lv' := [(5, .int (n5 + 1)), (0, .ref a0), (1, .int n1), (3, .int n3), (4, .int n4)]) hx hb dX5_putAway_66 hl (k := 4) rfl rfl (by decide) rfl (fun ls hl => ?_)
        refine lv_goto (tgt := 6) hx hb dX5_putAway_69 (by decide) ?_
        obtain rfl := Option.some.inj hf
        exact (hWW _ _ _ _ _).mp (ih _ _ _ _ _ _ _ _ _ _ hlp K _ _ ls hP hD hS (lv_sub hl [1, 2, 3, 4, 0] rfl))
      refine (hWW _ _ _ _ _).mpr ?_
      refine lv_iload hx hb dX5_putAway_6 (lv_at hl 4 rfl) ?_
      refine lv_aload_n hx hb dX5_putAway_8 rfl (lv_at hl 0 rfl) ?_
      refine va_get (D := D) (ci := 4) (v := .int c_places) (C := RX5) (T := TX5) (N := 10) hx hb hts (fun w h => mb (iX5 w h)) hown hK hP 0 rfl rfl 4 (by decide) (hts _ (mb tb_48)) (fun _ h9 => h9) rfl dX5_putAway_9 ?_
      refine lv_icmp_ge (tgt := 72) hx hb dX5_putAway_12 (by decide) (fun h1 => ?_) (fun h1 => ?_)
      · have hf := ipos h1 hf
        obtain rfl := Option.some.inj hf
        cases lpx_r hlp
        exact (hWW _ _ _ _ _).mp (K _ _ ls hP hD hS (lv_sub hl [] rfl))
      · have hf := ineg h1 hf
        refine lv_iload hx hb dX5_putAway_15 (lv_at hl 3 rfl) ?_
        refine lv_if_le (tgt := 72) hx hb dX5_putAway_17 (by decide) (fun h2 => ?_) (fun h2 => ?_)
        · have hf := ipos h2 hf
          obtain rfl := Option.some.inj hf
          cases lpx_r hlp
          exact (hWW _ _ _ _ _).mp (K _ _ ls hP hD hS (lv_sub hl [] rfl))
        · have hf := ineg h2 hf
          refine lv_aload_n hx hb dX5_putAway_20 rfl (lv_at hl 0 rfl) ?_
          refine va_get (D := D) (ci := 4) (v := .ref a_byDistance) (C := RX5) (T := TX5) (N := 10) hx hb hts (fun w h => mb (iX5 w h)) hown hK hP 0 rfl rfl 9 (by decide) (hts _ (mb tb_58)) (fun _ h9 => h9) rfl dX5_putAway_21 ?_
          refine lv_iload hx hb dX5_putAway_24 (lv_at hl 4 rfl) ?_
          obtain ⟨h3, hf⟩ := ob_d hf
          refine va_iald hx hb hK hP 4 0 rfl rfl h3 dX5_putAway_26 ?_
          refine lv_istore (lv' := [(6, .int (c_byDistance n5.toNatClampNeg)), (0, .ref a0), (1, .int n1), (3, .int n3), (4, .int n4), (5, .int n5)]) hx hb dX5_putAway_27 hl (by decide) rfl (fun ls hl => ?_)
          refine lv_aload_n hx hb dX5_putAway_29 rfl (lv_at hl 1 rfl) ?_
          refine lv_iload hx hb dX5_putAway_30 (lv_at hl 0 rfl) ?_
          obtain ⟨r4, hc5, hf⟩ := ob1 hf
          refine ro_calli (r := r4) (va_runV (As := [.int (c_byDistance n5.toNatClampNeg)]) (rest := []) ⟨hx, hb, hml, hown, hts⟩ (k_X5_isFree l hl0 D cI cJ cZ cS B0 H a0 a_lot a_pieces a_mark a_byDistance c_lanes c_positions c_room c_gap c_places c_picked c_pieces (c_byDistance n5.toNatClampNeg) r4 hc5) (cwV 1 hts (gV tb_675 tb_676 tb_677 tb_3 tb_678) rfl rfl rfl (by decide +kernel) ⟨Nat.le_of_ble_eq_true rfl, Nat.le_of_ble_eq_true rfl⟩) ⟨rp_blind, va_recv hK hP (ci := 4) (q0 := 0) rfl rfl, rp_pre (hP.sub [0, 2] rfl) hK (hBn _ _ hS) (hEn _ _ hS)⟩ rfl rfl hl.1 rfl (lv_room (Nat.le_of_ble_eq_true rfl)) dX5_putAway_32 ⟨Nat.le_of_ble_eq_true rfl, Nat.le_of_ble_eq_true rfl⟩) ?_
          refine lv_if_eq (tgt := 66) hx hb dX5_putAway_35 (by decide) (fun h6 => ?_) (fun h6 => ?_)
          · have hf := ipos h6 hf
            exact (hWW _ _ _ _ _).mp (hJ66 _ _ _ _ _ hf _ _ ls hP hD hS (lv_sub hl [1, 2, 3, 4, 5] rfl))
          · have hf := ineg h6 hf
            refine lv_iload hx hb dX5_putAway_38 (lv_at hl 4 rfl) ?_
            refine lv_aload_n hx hb dX5_putAway_40 rfl (lv_at hl 1 rfl) ?_
            refine va_get (D := D) (ci := 4) (v := .int c_room) (C := RX5) (T := TX5) (N := 10) hx hb hts (fun w h => mb (iX5 w h)) hown hK hP 0 rfl rfl 2 (by decide) (hts _ (mb tb_44)) (fun _ h9 => h9) rfl dX5_putAway_41 ?_
            refine va_mmin hx hb (hml.trans hl.1.symm) hown (hts _ (mb tb_251)) (hts _ (mb tb_252)) (hts _ (mb tb_8)) (hts _ (mb wm_min)) (Nat.le_of_ble_eq_true rfl) (Nat.le_of_ble_eq_true rfl) (Nat.zero_le _) (Nat.zero_le _) dX5_putAway_44 ?_
            refine lv_istore (lv' := [(7, .int (if c_room < n4 then c_room else n4)), (6, .int (c_byDistance n5.toNatClampNeg)), (0, .ref a0), (1, .int n1), (3, .int n3), (4, .int n4), (5, .int n5)]) hx hb dX5_putAway_47 hl (by decide) rfl (fun ls hl => ?_)
            refine lv_aload_n hx hb dX5_putAway_49 rfl (lv_at hl 2 rfl) ?_
            refine lv_iload hx hb dX5_putAway_50 (lv_at hl 1 rfl) ?_
            refine lv_iload_n hx hb dX5_putAway_52 rfl (lv_at hl 3 rfl) ?_
            refine lv_iload hx hb dX5_putAway_53 (lv_at hl 0 rfl) ?_
            refine lv_iload_n hx hb dX5_putAway_55 rfl (lv_at hl 4 rfl) ?_
            obtain ⟨o9, o10, o11, hc8, hf⟩ := ob3 hf
            refine rw_callv (va_runV (As := [.int (c_byDistance n5.toNatClampNeg), .int n1, .int (if c_room < n4 then c_room else n4), .int n3]) (rest := []) ⟨hx, hb, hml, hown, hts⟩ (k_X5_set l hl0 D cI cJ cZ cS B0 H.size a0 a_lot a_pieces a_mark a_byDistance c_lanes c_positions c_room c_gap c_places c_picked c_lot c_pieces c_mark (c_byDistance n5.toNatClampNeg) n1 (if c_room < n4 then c_room else n4) n3 o9 o10 o11 hc8) (cwV 4 hts (gV tb_254 tb_255 tb_256 tb_3 tb_257) rfl rfl rfl (by decide +kernel) ⟨Nat.le_of_ble_eq_true rfl, Nat.le_of_ble_eq_true rfl⟩) ⟨wp_blind, va_recv hK hP (ci := 4) (q0 := 0) rfl rfl, wp_pre (hP.sub [0, 1, 2, 3] rfl) hK (va_D.sub (hD.weaken (fun _ _ _ h9 => hAB _ h9)) [0, 1, 2, 3] rfl rfl) (hBn _ _ hS) (hEn _ _ hS)⟩ rfl rfl hl.1 rfl (lv_room (Nat.le_of_ble_eq_true rfl)) dX5_putAway_56 ⟨Nat.le_of_ble_eq_true rfl, Nat.le_of_ble_eq_true rfl⟩) hP hD hS hA hFa [0, 1, 2, 3] rfl rfl (fun H locs hP hD hS => ?_)
            have hP : va_P D vwCl [oX5 a0 c_lanes c_positions c_room c_gap c_places c_picked a_lot a_pieces a_mark a_byDistance, rI cI a_lot 48 o9, rI cI a_pieces 48 o10, rI cI a_mark 48 o11, rI cI a_byDistance 48 c_byDistance] H := hP
            have hD : va_D A [oX5 a0 c_lanes c_positions c_room c_gap c_places c_picked a_lot a_pieces a_mark a_byDistance, rI cI a_lot 48 o9, rI cI a_pieces 48 o10, rI cI a_mark 48 o11, rI cI a_byDistance 48 c_byDistance] := hD
            refine lv_iload hx hb dX5_putAway_59 (lv_at hl 5 rfl) ?_
            refine lv_iload hx hb dX5_putAway_61 (lv_at hl 0 rfl) ?_
            refine lv_isub hx hb dX5_putAway_63 ?_
            refine lv_istore (lv' := [(4, .int (n4 - (if c_room < n4 then c_room else n4))), (7, .int (if c_room < n4 then c_room else n4)), (6, .int (c_byDistance n5.toNatClampNeg)), (0, .ref a0), (1, .int n1), (3, .int n3), (5, .int n5)]) hx hb dX5_putAway_64 hl (by decide) rfl (fun ls hl => ?_)
            exact (hWW _ _ _ _ _).mp (hJ66 _ _ _ _ _ hf _ _ ls hP hD hS (lv_sub hl [3, 4, 5, 0, 6] rfl))
  refine (hWW _ _ _ _ _).mpr ?_
  refine lv_iload_n hx hb dX5_putAway_0 rfl (lv_at hl 2 rfl) ?_
  refine lv_istore (lv' := [(4, .int v2), (0, .ref a0), (1, .int v1), (2, .int v2), (3, .int v3)]) hx hb dX5_putAway_1 hl (by decide) rfl (fun ls hl => ?_)
  refine lv_iconst (v := 0) hx hb dX5_putAway_3 (by decide) ?_
  refine lv_istore (lv' := [(5, .int 0), (4, .int v2), (0, .ref a0), (1, .int v1), (2, .int v2), (3, .int v3)]) hx hb dX5_putAway_4 hl (by decide) rfl (fun ls hl => ?_)
  obtain ⟨c13, c14, c15, hc12, hf⟩ := ob3 hf
  refine (hWW _ _ _ _ _).mp (hL6 fu _ _ _ _ _ _ _ _ _ _ hc12 (fun H locs ls hP hD hS hl => ?_) _ _ ls hP hD hS (lv_sub hl [2, 3, 5, 1, 0] rfl))
  · refine (hWW _ _ _ _ _).mpr ?_
    cases hf
    refine W.widen (k := 0) (n := 0) (Nat.le_of_ble_eq_true rfl) (Nat.le_of_ble_eq_true rfl) ?_
    exact W.vret hx hb hr (fun t ht hW => ⟨⟨(), rfl, trivial, (by show va_P D vwCl _ t.heap; rw [ht]; exact hP)⟩, hS.F ht⟩) hS.2.2 dX5_putAway_72
def f_X8_can_J10 (n1 : Int32) (t1 : Int32) (c_raised : Int32) : Option (Int32 × Int32) :=
  gb n1 (some (n1, t1))
def f_X8_can (v1 : Int32) (v2 : Int32) (c_raised : Int32) : Option (Int32 × Int32) :=
  (if v1 = 0 then f_X8_can_J10 v1 v2 c_raised
  else f_X8_can_J10 v1 0 c_raised)
set_option maxHeartbeats 4000000 in
set_option maxRecDepth 100000 in
theorem k_X8_can (l : Launch) (hl0 : l.stackTraces = false) (D : va_G) (cI cJ cZ cS : ClassId) (B0 : Nat) (sz : Nat) (a0 a_w a_kept a_copy a_near a_isDone a_lane a_position a_least a_boxesOf a_staying a_planned a_scale : Nat) (c_raised : Int32) (c_undos : Int32) (c_eldest : Int32) (v1 : Int32) (v2 : Int32) (r9 : Int32) (oc_raised : Int32)  (hf : f_X8_can v1 v2 c_raised = some (r9, oc_raised)) : Met l yX8_can (wz yX8_can cX8_can 3 (some .boolean)) ({ frames := 0, cells := 0, slots := 0, locals := 0 }) (va_Pc [.ref a0, .int v1, .int v2] (wp D cI cJ cZ cS B0 [oX8 a0 c_raised a_w a_kept a_copy c_undos c_eldest a_near a_isDone a_lane a_position a_least a_boxesOf a_staying a_planned a_scale] sz)) (va_Qi (fun (r2 : Int32) (_ : Unit) => r2 = r9) (fun _ t => va_P D vwCl [oX8 a0 oc_raised a_w a_kept a_copy c_undos c_eldest a_near a_isDone a_lane a_position a_least a_boxesOf a_staying a_planned a_scale] t.heap) (va_A [oX8 a0 c_raised a_w a_kept a_copy c_undos c_eldest a_near a_isDone a_lane a_position a_least a_boxesOf a_staying a_planned a_scale] sz)) 0 0 (va_A [oX8 a0 c_raised a_w a_kept a_copy c_undos c_eldest a_near a_isDone a_lane a_position a_least a_boxesOf a_staying a_planned a_scale] sz) := by
  refine Met.ofW (cc := cX8_can) (maxL := 3) (ret := (some .boolean)) (by decide) rfl ?_
  intro p e s m args below meth c s₁ B hml hv
  obtain ⟨rfl, hsz, hP, hK, hD0, hB0, hE⟩ := hv
  subst hsz
  have hx := B.exec
  have hb := B.bytes
  have hr := B.returns
  have hts := atoms_spec (ws := (wz yX8_can cX8_can 3 (some .boolean))) B.pre
  have hown : s.vm.findClass RX8 = some m.cls := findClass_of_methodNamed B.named
  have hlocks := B.notSynchronized
  have hD := hD0.self (sz := s.heap.size)
  have hAB : ∀ q : Nat, va_A [oX8 a0 c_raised a_w a_kept a_copy c_undos c_eldest a_near a_isDone a_lane a_position a_least a_boxesOf a_staying a_planned a_scale] s.heap.size q → B0 ≤ q := va_A_B hD0 hB0
  generalize hAe : va_A [oX8 a0 c_raised a_w a_kept a_copy c_undos c_eldest a_near a_isDone a_lane a_position a_least a_boxesOf a_staying a_planned a_scale] s.heap.size = A at hD hAB ⊢
  have hA : ∀ q : Nat, s.heap.size ≤ q → A q := fun q h => by rw [← hAe]; exact Or.inr h
  have hFa := hA
  have hS : va_S A s.heap s.heap [] := va_S.rf
  have hBn := fun (H : Heap) (locs : List Loc) (h : va_S A s.heap H locs) => Nat.le_trans hB0 h.1
  have hEn := fun (H : Heap) (locs : List Loc) (h : va_S A s.heap H locs) => gE_now hE h hAB
  have hl := lv_entry ([.ref a0, .int v1, .int v2]) (n := 3) (Nat.le_of_ble_eq_true rfl)
  rw [lg_entry_eq]
  generalize (lg_sl ([.ref a0, .int v1, .int v2]) ++ List.replicate (3 - (lg_sl ([.ref a0, .int v1, .int v2])).length) Slot.unset).toArray = ls at hl ⊢
  have hl : lv_has ls 3 [(0, .ref a0), (1, .int v1), (2, .int v2)] := hl
  obtain ⟨H, hHe⟩ : ∃ H : Heap, H = s.heap := ⟨_, rfl⟩
  have hP : va_P D vwCl [oX8 a0 c_raised a_w a_kept a_copy c_undos c_eldest a_near a_isDone a_lane a_position a_least a_boxesOf a_staying a_planned a_scale] H := by rw [hHe]; exact hP
  have hS : va_S A s.heap H [] := by rw [hHe]; exact hS
  refine W_heq hHe ?_
  unfold f_X8_can at hf
  refine gen_goW (fun WW hWW => ?_)
  have hJ10 : ∀ (n1 : Int32) (t1 : Int32) (c_raised : Int32), f_X8_can_J10 n1 t1 c_raised = some (r9, oc_raised) → ∀ (H : Heap) (locs : List Loc) (ls : Array Slot), va_P D vwCl [oX8 a0 c_raised a_w a_kept a_copy c_undos c_eldest a_near a_isDone a_lane a_position a_least a_boxesOf a_staying a_planned a_scale] H → va_D A [oX8 a0 c_raised a_w a_kept a_copy c_undos c_eldest a_near a_isDone a_lane a_position a_least a_boxesOf a_staying a_planned a_scale] → va_S A s.heap H locs → lv_has ls 3 [(1, .int n1)] → WW H locs 0 0 (F0 m 10 ls [.int t1, .ref a0]) := by
    intro n1 t1 c_raised hf H locs ls hP hD hS hl
    unfold f_X8_can_J10 at hf
    refine (hWW _ _ _ _ _).mpr ?_
    refine va_put (D := D) (ci := 7) (v := .int t1) (ty := .int) (C := RX8) (T := TX8) (N := 15) hx hb hts (fun w h => mb (iX8 w h)) tyX8 tyX8_ok nmX8 hown hK hP hD hS 0 rfl rfl 0 (by decide) (hts _ (mb tb_1096)) (fun _ h9 => h9) rfl (by decide +kernel) rfl rfl (Nat.le_of_ble_eq_true rfl) dX8_can_10 (fun H locs hP hD hS => ?_)
    have hP : va_P D vwCl [oX8 a0 t1 a_w a_kept a_copy c_undos c_eldest a_near a_isDone a_lane a_position a_least a_boxesOf a_staying a_planned a_scale] H := hP
    have hD : va_D A [oX8 a0 t1 a_w a_kept a_copy c_undos c_eldest a_near a_isDone a_lane a_position a_least a_boxesOf a_staying a_planned a_scale] := hD
    refine lv_iload_n hx hb dX8_can_13 rfl (lv_at hl 0 rfl) ?_
    obtain ⟨h2, hf⟩ := ob_b hf
    cases hf
    refine W.widen (k := 0) (n := 0) (Nat.le_of_ble_eq_true rfl) (Nat.le_of_ble_eq_true rfl) ?_
    exact W.zret hx hb hr (nar_b h2) (fun t ht hW => ⟨⟨_, (), rfl, rfl, (by show va_P D vwCl _ t.heap; rw [ht]; exact hP)⟩, hS.F ht⟩) hS.2.2 dX8_can_14
  refine (hWW _ _ _ _ _).mpr ?_
  refine lv_aload_n hx hb dX8_can_0 rfl (lv_at hl 0 rfl) ?_
  refine lv_iload_n hx hb dX8_can_1 rfl (lv_at hl 1 rfl) ?_
  refine lv_if_eq (tgt := 9) hx hb dX8_can_2 (by decide) (fun h1 => ?_) (fun h1 => ?_)
  · have hf := ipos h1 hf
    refine lv_iload_n hx hb dX8_can_9 rfl (lv_at hl 2 rfl) ?_
    exact (hWW _ _ _ _ _).mp (hJ10 _ _ _ hf _ _ ls hP hD hS (lv_sub hl [1] rfl))
  · have hf := ineg h1 hf
    refine lv_iconst (v := 0) hx hb dX8_can_5 (by decide) ?_
    refine lv_goto (tgt := 10) hx hb dX8_can_6 (by decide) ?_
    exact (hWW _ _ _ _ _).mp (hJ10 _ _ _ hf _ _ ls hP hD hS (lv_sub hl [1] rfl))
def f_X8_isFree (v1 : Int32) (c_w : Nat → Int32) : Option (Int32) :=
  gd (63 + v1) 2450 ((if (c_w (63 + v1).toNatClampNeg) = 0 then some 1
  else some 0))
set_option maxHeartbeats 4000000 in
set_option maxRecDepth 100000 in
theorem k_X8_isFree (l : Launch) (hl0 : l.stackTraces = false) (D : va_G) (cI cJ cZ cS : ClassId) (B0 : Nat) (H0 : Heap) (a0 a_w a_kept a_copy a_near a_isDone a_lane a_position a_least a_boxesOf a_staying a_planned a_scale : Nat) (c_raised : Int32) (c_undos : Int32) (c_eldest : Int32) (c_w : Nat → Int32) (v1 : Int32) (r9 : Int32)  (hf : f_X8_isFree v1 c_w = some r9) : Met l yX8_isFree (wz yX8_isFree cX8_isFree 2 (some .boolean)) ({ frames := 0, cells := 0, slots := 0, locals := 0 }) (va_Pc [.ref a0, .int v1] (rp D cI cJ cZ cS B0 [oX8 a0 c_raised a_w a_kept a_copy c_undos c_eldest a_near a_isDone a_lane a_position a_least a_boxesOf a_staying a_planned a_scale, rI cI a_w 2450 c_w] H0)) (va_Qi (fun (r2 : Int32) (_ : Unit) => r2 = r9) (fun _ t => t.heap = H0) (fun q => H0.size ≤ q)) 0 0 (fun q => H0.size ≤ q) := by
  refine Met.ofW (cc := cX8_isFree) (maxL := 2) (ret := (some .boolean)) (by decide) rfl ?_
  intro p e s m args below meth c s₁ B hml hv
  obtain ⟨rfl, hH, hP, hK, hB0, hE⟩ := hv
  subst hH
  have hx := B.exec
  have hb := B.bytes
  have hr := B.returns
  have hts := atoms_spec (ws := (wz yX8_isFree cX8_isFree 2 (some .boolean))) B.pre
  have hown : s.vm.findClass RX8 = some m.cls := findClass_of_methodNamed B.named
  have hlocks := B.notSynchronized
  have hAB : ∀ q : Nat, s.heap.size ≤ q → B0 ≤ q := fun q h => Nat.le_trans hB0 h
  have hA : ∀ q : Nat, s.heap.size ≤ q → s.heap.size ≤ q := fun _ h => h
  have hS : va_S (fun q => s.heap.size ≤ q) s.heap s.heap [] := va_S.rf
  have hBn := fun (H : Heap) (locs : List Loc) (h : va_S (fun q => s.heap.size ≤ q) s.heap H locs) => Nat.le_trans hB0 h.1
  have hEn := fun (H : Heap) (locs : List Loc) (h : va_S (fun q => s.heap.size ≤ q) s.heap H locs) => gE_now hE h hAB
  have hl := lv_entry ([.ref a0, .int v1]) (n := 2) (Nat.le_of_ble_eq_true rfl)
  rw [lg_entry_eq]
  generalize (lg_sl ([.ref a0, .int v1]) ++ List.replicate (2 - (lg_sl ([.ref a0, .int v1])).length) Slot.unset).toArray = ls at hl ⊢
  have hl : lv_has ls 2 [(0, .ref a0), (1, .int v1)] := hl
  obtain ⟨H, hHe⟩ : ∃ H : Heap, H = s.heap := ⟨_, rfl⟩
  have hP : va_P D vwCl [oX8 a0 c_raised a_w a_kept a_copy c_undos c_eldest a_near a_isDone a_lane a_position a_least a_boxesOf a_staying a_planned a_scale, rI cI a_w 2450 c_w] H := by rw [hHe]; exact hP
  have hS : va_S (fun q => s.heap.size ≤ q) s.heap H [] := by rw [hHe]; exact hS
  refine W_heq hHe ?_
  unfold f_X8_isFree at hf
  refine lv_aload_n hx hb dX8_isFree_0 rfl (lv_at hl 0 rfl) ?_
  refine va_get (D := D) (ci := 7) (v := .ref a_w) (C := RX8) (T := TX8) (N := 15) hx hb hts (fun w h => mb (iX8 w h)) hown hK hP 0 rfl rfl 1 (by decide) (hts _ (mb tb_1097)) (fun _ h9 => h9) rfl dX8_isFree_1 ?_
  refine lv_bipush (v := 63) hx hb dX8_isFree_4 (by decide) ?_
  refine lv_iload_n hx hb dX8_isFree_6 rfl (lv_at hl 1 rfl) ?_
  refine lv_iadd hx hb dX8_isFree_7 ?_
  obtain ⟨h1, hf⟩ := ob_d hf
  refine va_iald hx hb hK hP 1 0 rfl rfl h1 dX8_isFree_8 ?_
  refine lv_if_ne (tgt := 16) hx hb dX8_isFree_9 (by decide) (fun h2 => ?_) (fun h2 => ?_)
  · have hf := ineg h2 hf
    refine lv_iconst (v := 0) hx hb dX8_isFree_16 (by decide) ?_
    cases hf
    exact W.zret hx hb hr rfl (fun t ht hW => ⟨⟨_, (), rfl, rfl, (ht.trans hHe)⟩, hS.F ht⟩) hS.2.2 dX8_isFree_17
  · have hf := ipos h2 hf
    refine lv_iconst (v := 1) hx hb dX8_isFree_12 (by decide) ?_
    refine lv_goto (tgt := 17) hx hb dX8_isFree_13 (by decide) ?_
    cases hf
    exact W.zret hx hb hr rfl (fun t ht hW => ⟨⟨_, (), rfl, rfl, (ht.trans hHe)⟩, hS.F ht⟩) hS.2.2 dX8_isFree_17
def f_X8_takes_J42 (t1 : Int32) (t2 : Int32) (c_w : Nat → Int32) : Option ((Nat → Int32)) :=
  gd t1 2450 (some (upd c_w t1.toNatClampNeg t2))
def f_X8_takes (v1 : Int32) (v2 : Int32) (c_w : Nat → Int32) : Option ((Nat → Int32)) :=
  gd (63 + v1) 2450 (gd (63 + v1) 2450 (bnd1 (f_X8_isFree v1 (upd c_w (63 + v1).toNatClampNeg ((c_w (63 + v1).toNatClampNeg) - v2))) (fun r3 =>
  ((if r3 = 0 then gd (15 + v1) 2450 (f_X8_takes_J42 (15 + v1) ((upd c_w (63 + v1).toNatClampNeg ((c_w (63 + v1).toNatClampNeg) - v2)) (15 + v1).toNatClampNeg) (upd c_w (63 + v1).toNatClampNeg ((c_w (63 + v1).toNatClampNeg) - v2)))
  else f_X8_takes_J42 (15 + v1) (-1) (upd c_w (63 + v1).toNatClampNeg ((c_w (63 + v1).toNatClampNeg) - v2)))))))
set_option maxHeartbeats 4000000 in
set_option maxRecDepth 100000 in
theorem k_X8_takes (l : Launch) (hl0 : l.stackTraces = false) (D : va_G) (cI cJ cZ cS : ClassId) (B0 : Nat) (sz : Nat) (a0 a_w a_kept a_copy a_near a_isDone a_lane a_position a_least a_boxesOf a_staying a_planned a_scale : Nat) (c_raised : Int32) (c_undos : Int32) (c_eldest : Int32) (c_w : Nat → Int32) (v1 : Int32) (v2 : Int32) (oc_w : Nat → Int32)  (hf : f_X8_takes v1 v2 c_w = some oc_w) : Met l yX8_takes (wz yX8_takes cX8_takes 3 none) ({ frames := 1, cells := 0, slots := 0, locals := 21 }) (va_Pc [.ref a0, .int v1, .int v2] (wp D cI cJ cZ cS B0 [oX8 a0 c_raised a_w a_kept a_copy c_undos c_eldest a_near a_isDone a_lane a_position a_least a_boxesOf a_staying a_planned a_scale, rI cI a_w 2450 c_w] sz)) (va_Qv (fun (_ : Unit) => True) (fun _ t => va_P D vwCl [oX8 a0 c_raised a_w a_kept a_copy c_undos c_eldest a_near a_isDone a_lane a_position a_least a_boxesOf a_staying a_planned a_scale, rI cI a_w 2450 oc_w] t.heap) (va_A [oX8 a0 c_raised a_w a_kept a_copy c_undos c_eldest a_near a_isDone a_lane a_position a_least a_boxesOf a_staying a_planned a_scale, rI cI a_w 2450 c_w] sz)) 0 0 (va_A [oX8 a0 c_raised a_w a_kept a_copy c_undos c_eldest a_near a_isDone a_lane a_position a_least a_boxesOf a_staying a_planned a_scale, rI cI a_w 2450 c_w] sz) := by
  refine Met.ofW (cc := cX8_takes) (maxL := 3) (ret := none) (by decide) rfl ?_
  intro p e s m args below meth c s₁ B hml hv
  obtain ⟨rfl, hsz, hP, hK, hD0, hB0, hE⟩ := hv
  subst hsz
  have hx := B.exec
  have hb := B.bytes
  have hr := B.returns
  have hts := atoms_spec (ws := (wz yX8_takes cX8_takes 3 none)) B.pre
  have hown : s.vm.findClass RX8 = some m.cls := findClass_of_methodNamed B.named
  have hlocks := B.notSynchronized
  have hD := hD0.self (sz := s.heap.size)
  have hAB : ∀ q : Nat, va_A [oX8 a0 c_raised a_w a_kept a_copy c_undos c_eldest a_near a_isDone a_lane a_position a_least a_boxesOf a_staying a_planned a_scale, rI cI a_w 2450 c_w] s.heap.size q → B0 ≤ q := va_A_B hD0 hB0
  generalize hAe : va_A [oX8 a0 c_raised a_w a_kept a_copy c_undos c_eldest a_near a_isDone a_lane a_position a_least a_boxesOf a_staying a_planned a_scale, rI cI a_w 2450 c_w] s.heap.size = A at hD hAB ⊢
  have hA : ∀ q : Nat, s.heap.size ≤ q → A q := fun q h => by rw [← hAe]; exact Or.inr h
  have hFa := hA
  have hS : va_S A s.heap s.heap [] := va_S.rf
  have hBn := fun (H : Heap) (locs : List Loc) (h : va_S A s.heap H locs) => Nat.le_trans hB0 h.1
  have hEn := fun (H : Heap) (locs : List Loc) (h : va_S A s.heap H locs) => gE_now hE h hAB
  have hl := lv_entry ([.ref a0, .int v1, .int v2]) (n := 3) (Nat.le_of_ble_eq_true rfl)
  rw [lg_entry_eq]
  generalize (lg_sl ([.ref a0, .int v1, .int v2]) ++ List.replicate (3 - (lg_sl ([.ref a0, .int v1, .int v2])).length) Slot.unset).toArray = ls at hl ⊢
  have hl : lv_has ls 3 [(0, .ref a0), (1, .int v1), (2, .int v2)] := hl
  obtain ⟨H, hHe⟩ : ∃ H : Heap, H = s.heap := ⟨_, rfl⟩
  have hP : va_P D vwCl [oX8 a0 c_raised a_w a_kept a_copy c_undos c_eldest a_near a_isDone a_lane a_position a_least a_boxesOf a_staying a_planned a_scale, rI cI a_w 2450 c_w] H := by rw [hHe]; exact hP
  have hS : va_S A s.heap H [] := by rw [hHe]; exact hS
  refine W_heq hHe ?_
  unfold f_X8_takes at hf
  refine gen_goW (fun WW hWW => ?_)
  have hJ42 : ∀ (t1 : Int32) (t2 : Int32) (c_w : Nat → Int32), f_X8_takes_J42 t1 t2 c_w = some oc_w → ∀ (H : Heap) (locs : List Loc) (ls : Array Slot), va_P D vwCl [oX8 a0 c_raised a_w a_kept a_copy c_undos c_eldest a_near a_isDone a_lane a_position a_least a_boxesOf a_staying a_planned a_scale, rI cI a_w 2450 c_w] H → va_D A [oX8 a0 c_raised a_w a_kept a_copy c_undos c_eldest a_near a_isDone a_lane a_position a_least a_boxesOf a_staying a_planned a_scale, rI cI a_w 2450 c_w] → va_S A s.heap H locs → lv_has ls 3 [] → WW H locs 0 0 (F0 m 42 ls [.int t2, .int t1, .ref a_w]) := by
    intro t1 t2 c_w hf H locs ls hP hD hS hl
    unfold f_X8_takes_J42 at hf
    refine (hWW _ _ _ _ _).mpr ?_
    obtain ⟨h7, hf⟩ := ob_d hf
    refine va_iast hx hb hK hP hD hS 1 0 rfl rfl h7 dX8_takes_42 (fun H locs hP hD hS => ?_)
    have hP : va_P D vwCl [oX8 a0 c_raised a_w a_kept a_copy c_undos c_eldest a_near a_isDone a_lane a_position a_least a_boxesOf a_staying a_planned a_scale, rI cI a_w 2450 (upd c_w t1.toNatClampNeg t2)] H := hP
    have hD : va_D A [oX8 a0 c_raised a_w a_kept a_copy c_undos c_eldest a_near a_isDone a_lane a_position a_least a_boxesOf a_staying a_planned a_scale, rI cI a_w 2450 (upd c_w t1.toNatClampNeg t2)] := hD
    cases hf
    refine W.widen (k := 0) (n := 0) (Nat.le_of_ble_eq_true rfl) (Nat.le_of_ble_eq_true rfl) ?_
    exact W.vret hx hb hr (fun t ht hW => ⟨⟨(), rfl, trivial, (by show va_P D vwCl _ t.heap; rw [ht]; exact hP)⟩, hS.F ht⟩) hS.2.2 dX8_takes_43
  refine (hWW _ _ _ _ _).mpr ?_
  refine lv_aload_n hx hb dX8_takes_0 rfl (lv_at hl 0 rfl) ?_
  refine va_get (D := D) (ci := 7) (v := .ref a_w) (C := RX8) (T := TX8) (N := 15) hx hb hts (fun w h => mb (iX8 w h)) hown hK hP 0 rfl rfl 1 (by decide) (hts _ (mb tb_1097)) (fun _ h9 => h9) rfl dX8_takes_1 ?_
  refine lv_bipush (v := 63) hx hb dX8_takes_4 (by decide) ?_
  refine lv_iload_n hx hb dX8_takes_6 rfl (lv_at hl 1 rfl) ?_
  refine lv_iadd hx hb dX8_takes_7 ?_
  refine lv_dup2_11 hx hb dX8_takes_8 rfl rfl ?_
  obtain ⟨h1, hf⟩ := ob_d hf
  refine va_iald hx hb hK hP 1 0 rfl rfl h1 dX8_takes_9 ?_
  refine lv_iload_n hx hb dX8_takes_10 rfl (lv_at hl 2 rfl) ?_
  refine lv_isub hx hb dX8_takes_11 ?_
  obtain ⟨h2, hf⟩ := ob_d hf
  refine va_iast hx hb hK hP hD hS 1 0 rfl rfl h2 dX8_takes_12 (fun H locs hP hD hS => ?_)
  have hP : va_P D vwCl [oX8 a0 c_raised a_w a_kept a_copy c_undos c_eldest a_near a_isDone a_lane a_position a_least a_boxesOf a_staying a_planned a_scale, rI cI a_w 2450 (upd c_w (63 + v1).toNatClampNeg ((c_w (63 + v1).toNatClampNeg) - v2))] H := hP
  have hD : va_D A [oX8 a0 c_raised a_w a_kept a_copy c_undos c_eldest a_near a_isDone a_lane a_position a_least a_boxesOf a_staying a_planned a_scale, rI cI a_w 2450 (upd c_w (63 + v1).toNatClampNeg ((c_w (63 + v1).toNatClampNeg) - v2))] := hD
  refine lv_aload_n hx hb dX8_takes_13 rfl (lv_at hl 0 rfl) ?_
  refine va_get (D := D) (ci := 7) (v := .ref a_w) (C := RX8) (T := TX8) (N := 15) hx hb hts (fun w h => mb (iX8 w h)) hown hK hP 0 rfl rfl 1 (by decide) (hts _ (mb tb_1097)) (fun _ h9 => h9) rfl dX8_takes_14 ?_
  refine lv_bipush (v := 15) hx hb dX8_takes_17 (by decide) ?_
  refine lv_iload_n hx hb dX8_takes_19 rfl (lv_at hl 1 rfl) ?_
  refine lv_iadd hx hb dX8_takes_20 ?_
  refine lv_aload_n hx hb dX8_takes_21 rfl (lv_at hl 0 rfl) ?_
  refine lv_iload_n hx hb dX8_takes_22 rfl (lv_at hl 1 rfl) ?_
  obtain ⟨r3, hc4, hf⟩ := ob1 hf
  refine ro_calli (r := r3) (va_runV (As := [.int v1]) (rest := [.int (15 + v1), .ref a_w]) ⟨hx, hb, hml, hown, hts⟩ (k_X8_isFree l hl0 D cI cJ cZ cS B0 H a0 a_w a_kept a_copy a_near a_isDone a_lane a_position a_least a_boxesOf a_staying a_planned a_scale c_raised c_undos c_eldest (upd c_w (63 + v1).toNatClampNeg ((c_w (63 + v1).toNatClampNeg) - v2)) v1 r3 hc4) (cwV 1 hts (gV tb_1182 tb_1184 ts_39 tb_9 tb_1185) rfl rfl rfl (by decide +kernel) ⟨Nat.le_of_ble_eq_true rfl, Nat.le_of_ble_eq_true rfl⟩) ⟨rp_blind, va_recv hK hP (ci := 7) (q0 := 0) rfl rfl, rp_pre (hP.sub [0, 1] rfl) hK (hBn _ _ hS) (hEn _ _ hS)⟩ rfl rfl hl.1 rfl (lv_room (Nat.le_of_ble_eq_true rfl)) dX8_takes_23 ⟨Nat.le_of_ble_eq_true rfl, Nat.le_of_ble_eq_true rfl⟩) ?_
  refine lv_if_eq (tgt := 33) hx hb dX8_takes_26 (by decide) (fun h5 => ?_) (fun h5 => ?_)
  · have hf := ipos h5 hf
    refine lv_aload_n hx hb dX8_takes_33 rfl (lv_at hl 0 rfl) ?_
    refine va_get (D := D) (ci := 7) (v := .ref a_w) (C := RX8) (T := TX8) (N := 15) hx hb hts (fun w h => mb (iX8 w h)) hown hK hP 0 rfl rfl 1 (by decide) (hts _ (mb tb_1097)) (fun _ h9 => h9) rfl dX8_takes_34 ?_
    refine lv_bipush (v := 15) hx hb dX8_takes_37 (by decide) ?_
    refine lv_iload_n hx hb dX8_takes_39 rfl (lv_at hl 1 rfl) ?_
    refine lv_iadd hx hb dX8_takes_40 ?_
    obtain ⟨h6, hf⟩ := ob_d hf
    refine va_iald hx hb hK hP 1 0 rfl rfl h6 dX8_takes_41 ?_
    exact (hWW _ _ _ _ _).mp (hJ42 _ _ _ hf _ _ ls hP hD hS (lv_sub hl [] rfl))
  · have hf := ineg h5 hf
    refine lv_iconst (v := (-1)) hx hb dX8_takes_29 (by decide) ?_
    refine lv_goto (tgt := 42) hx hb dX8_takes_30 (by decide) ?_
    exact (hWW _ _ _ _ _).mp (hJ42 _ _ _ hf _ _ ls hP hD hS (lv_sub hl [] rfl))
def f_X5_sortByDistance_L27_J65 (n1 : Int32) (n2 : Int32) (n3 : Int32) (n4 : Int32) (c_lanes : Int32) (c_positions : Int32) (c_gap : Int32) (c_places : Int32) (c_byDistance : Nat → Int32) : Option ((Int32 × Int32 × (Nat → Int32)) ⊕ (Int32 × (Nat → Int32))) :=
  some (.inl (n1, n4 + 1, c_byDistance))
def f_X5_sortByDistance_L27 (n2 : Int32) (n3 : Int32) (c_lanes : Int32) (c_positions : Int32) (c_gap : Int32) (c_places : Int32) (n1 : Int32) (n4 : Int32) (c_byDistance : Nat → Int32) : Option ((Int32 × Int32 × (Nat → Int32)) ⊕ (Int32 × (Nat → Int32))) :=
  (if c_places ≤ n4 then some (.inr (n1, c_byDistance))
  else (if c_places ≤ n1 then some (.inr (n1, c_byDistance))
  else bnd1 (f_X5_distanceOf n4 c_positions c_gap) (fun r4 =>
  ((if r4 = n3 then gd n1 48 (f_X5_sortByDistance_L27_J65 (n1 + 1) n2 n3 n4 c_lanes c_positions c_gap c_places (upd c_byDistance n1.toNatClampNeg n4))
  else f_X5_sortByDistance_L27_J65 n1 n2 n3 n4 c_lanes c_positions c_gap c_places c_byDistance)))))
def f_X5_sortByDistance_L19 (n2 : Int32) (c_lanes : Int32) (c_positions : Int32) (c_gap : Int32) (c_places : Int32) (n1 : Int32) (n3 : Int32) (c_byDistance : Nat → Int32) : Option ((Int32 × Int32 × (Nat → Int32)) ⊕ (Nat → Int32)) :=
  (if n2 < n3 then some (.inr c_byDistance)
  else (bnd2 (loop (fun z => f_X5_sortByDistance_L27 n2 n3 c_lanes c_positions c_gap c_places z.1 z.2.1 z.2.2) fu (n1, 0, c_byDistance)) fun m9 c10 =>
  some (.inl (m9, n3 + 1, c10))))
def f_X5_sortByDistance (c_lanes : Int32) (c_positions : Int32) (c_gap : Int32) (c_places : Int32) (c_byDistance : Nat → Int32) : Option ((Nat → Int32)) :=
  (bnd1 (loop (fun z => f_X5_sortByDistance_L19 ((c_gap * c_lanes) + c_positions) c_lanes c_positions c_gap c_places z.1 z.2.1 z.2.2) fu (0, 1, c_byDistance)) fun c12 =>
  some c12)
set_option maxHeartbeats 4000000 in
set_option maxRecDepth 100000 in
theorem k_X5_sortByDistance (l : Launch) (hl0 : l.stackTraces = false) (D : va_G) (cI cJ cZ cS : ClassId) (B0 : Nat) (sz : Nat) (a0 a_lot a_pieces a_mark a_byDistance : Nat) (c_lanes : Int32) (c_positions : Int32) (c_room : Int32) (c_gap : Int32) (c_places : Int32) (c_picked : Int64) (c_byDistance : Nat → Int32) (oc_byDistance : Nat → Int32)  (hf : f_X5_sortByDistance c_lanes c_positions c_gap c_places c_byDistance = some oc_byDistance) : Met l yX5_sortByDistance (wz yX5_sortByDistance cX5_sortByDistance 5 none) ({ frames := 1, cells := 0, slots := 0, locals := 21 }) (va_Pc [.ref a0] (wp D cI cJ cZ cS B0 [oX5 a0 c_lanes c_positions c_room c_gap c_places c_picked a_lot a_pieces a_mark a_byDistance, rI cI a_byDistance 48 c_byDistance] sz)) (va_Qv (fun (_ : Unit) => True) (fun _ t => va_P D vwCl [oX5 a0 c_lanes c_positions c_room c_gap c_places c_picked a_lot a_pieces a_mark a_byDistance, rI cI a_byDistance 48 oc_byDistance] t.heap) (va_A [oX5 a0 c_lanes c_positions c_room c_gap c_places c_picked a_lot a_pieces a_mark a_byDistance, rI cI a_byDistance 48 c_byDistance] sz)) 0 0 (va_A [oX5 a0 c_lanes c_positions c_room c_gap c_places c_picked a_lot a_pieces a_mark a_byDistance, rI cI a_byDistance 48 c_byDistance] sz) := by
  refine Met.ofW (cc := cX5_sortByDistance) (maxL := 5) (ret := none) (by decide) rfl ?_
  intro p e s m args below meth c s₁ B hml hv
  obtain ⟨rfl, hsz, hP, hK, hD0, hB0, hE⟩ := hv
  subst hsz
  have hx := B.exec
  have hb := B.bytes
  have hr := B.returns
  have hts := atoms_spec (ws := (wz yX5_sortByDistance cX5_sortByDistance 5 none)) B.pre
  have hown : s.vm.findClass RX5 = some m.cls := findClass_of_methodNamed B.named
  have hlocks := B.notSynchronized
  have hD := hD0.self (sz := s.heap.size)
  have hAB : ∀ q : Nat, va_A [oX5 a0 c_lanes c_positions c_room c_gap c_places c_picked a_lot a_pieces a_mark a_byDistance, rI cI a_byDistance 48 c_byDistance] s.heap.size q → B0 ≤ q := va_A_B hD0 hB0
  generalize hAe : va_A [oX5 a0 c_lanes c_positions c_room c_gap c_places c_picked a_lot a_pieces a_mark a_byDistance, rI cI a_byDistance 48 c_byDistance] s.heap.size = A at hD hAB ⊢
  have hA : ∀ q : Nat, s.heap.size ≤ q → A q := fun q h => by rw [← hAe]; exact Or.inr h
  have hFa := hA
  have hS : va_S A s.heap s.heap [] := va_S.rf
  have hBn := fun (H : Heap) (locs : List Loc) (h : va_S A s.heap H locs) => Nat.le_trans hB0 h.1
  have hEn := fun (H : Heap) (locs : List Loc) (h : va_S A s.heap H locs) => gE_now hE h hAB
  have hl := lv_entry ([.ref a0]) (n := 5) (Nat.le_of_ble_eq_true rfl)
  rw [lg_entry_eq]
  generalize (lg_sl ([.ref a0]) ++ List.replicate (5 - (lg_sl ([.ref a0])).length) Slot.unset).toArray = ls at hl ⊢
  have hl : lv_has ls 5 [(0, .ref a0)] := hl
  obtain ⟨H, hHe⟩ : ∃ H : Heap, H = s.heap := ⟨_, rfl⟩
  have hP : va_P D vwCl [oX5 a0 c_lanes c_positions c_room c_gap c_places c_picked a_lot a_pieces a_mark a_byDistance, rI cI a_byDistance 48 c_byDistance] H := by rw [hHe]; exact hP
  have hS : va_S A s.heap H [] := by rw [hHe]; exact hS
  refine W_heq hHe ?_
  unfold f_X5_sortByDistance at hf
  refine gen_goW (fun WW hWW => ?_)
  have hL19 : ∀ (n : Nat) (n2 : Int32) (n1 : Int32) (n3 : Int32) (c_byDistance : Nat → Int32) (e_c_byDistance : Nat → Int32), loop (fun z => f_X5_sortByDistance_L19 n2 c_lanes c_positions c_gap c_places z.1 z.2.1 z.2.2) n (n1, n3, c_byDistance) = some e_c_byDistance → (∀ (H : Heap) (locs : List Loc) (ls : Array Slot), va_P D vwCl [oX5 a0 c_lanes c_positions c_room c_gap c_places c_picked a_lot a_pieces a_mark a_byDistance, rI cI a_byDistance 48 e_c_byDistance] H → va_D A [oX5 a0 c_lanes c_positions c_room c_gap c_places c_picked a_lot a_pieces a_mark a_byDistance, rI cI a_byDistance 48 e_c_byDistance] → va_S A s.heap H locs → lv_has ls 5 [] → WW H locs 0 0 (F0 m 77 ls [])) → ∀ (H : Heap) (locs : List Loc) (ls : Array Slot), va_P D vwCl [oX5 a0 c_lanes c_positions c_room c_gap c_places c_picked a_lot a_pieces a_mark a_byDistance, rI cI a_byDistance 48 c_byDistance] H → va_D A [oX5 a0 c_lanes c_positions c_room c_gap c_places c_picked a_lot a_pieces a_mark a_byDistance, rI cI a_byDistance 48 c_byDistance] → va_S A s.heap H locs → lv_has ls 5 [(0, .ref a0), (1, .int n1), (2, .int n2), (3, .int n3)] → WW H locs 0 0 (F0 m 19 ls []) := by
    intro n
    induction n with
    | zero =>
      intro n2 n1 n3 c_byDistance e_c_byDistance hlp
      exact absurd hlp (by simp [loop])
    | succ n ih =>
      intro n2 n1 n3 c_byDistance e_c_byDistance hlp K H locs ls hP hD hS hl
      obtain ⟨x9, hf, hlp⟩ := loop_s hlp
      have hf : f_X5_sortByDistance_L19 n2 c_lanes c_positions c_gap c_places n1 n3 c_byDistance = some x9 := hf
      unfold f_X5_sortByDistance_L19 at hf
      have hL27 : ∀ (n : Nat) (n2 : Int32) (n3 : Int32) (n1 : Int32) (n4 : Int32) (c_byDistance : Nat → Int32) (e1 : Int32) (e_c_byDistance : Nat → Int32), loop (fun z => f_X5_sortByDistance_L27 n2 n3 c_lanes c_positions c_gap c_places z.1 z.2.1 z.2.2) n (n1, n4, c_byDistance) = some (e1, e_c_byDistance) → (∀ (H : Heap) (locs : List Loc) (ls : Array Slot), va_P D vwCl [oX5 a0 c_lanes c_positions c_room c_gap c_places c_picked a_lot a_pieces a_mark a_byDistance, rI cI a_byDistance 48 e_c_byDistance] H → va_D A [oX5 a0 c_lanes c_positions c_room c_gap c_places c_picked a_lot a_pieces a_mark a_byDistance, rI cI a_byDistance 48 e_c_byDistance] → va_S A s.heap H locs → lv_has ls 5 [(0, .ref a0), (1, .int e1), (2, .int n2), (3, .int n3)] → WW H locs 0 0 (F0 m 71 ls [])) → ∀ (H : Heap) (locs : List Loc) (ls : Array Slot), va_P D vwCl [oX5 a0 c_lanes c_positions c_room c_gap c_places c_picked a_lot a_pieces a_mark a_byDistance, rI cI a_byDistance 48 c_byDistance] H → va_D A [oX5 a0 c_lanes c_positions c_room c_gap c_places c_picked a_lot a_pieces a_mark a_byDistance, rI cI a_byDistance 48 c_byDistance] → va_S A s.heap H locs → lv_has ls 5 [(0, .ref a0), (1, .int n1), (2, .int n2), (3, .int n3), (4, .int n4)] → WW H locs 0 0 (F0 m 27 ls []) := by
        intro n
        induction n with
        | zero =>
          intro n2 n3 n1 n4 c_byDistance e1 e_c_byDistance hlp
          exact absurd hlp (by simp [loop])
        | succ n ih =>
          intro n2 n3 n1 n4 c_byDistance e1 e_c_byDistance hlp K H locs ls hP hD hS hl
          obtain ⟨x9, hf, hlp⟩ := loop_s hlp
          have hf : f_X5_sortByDistance_L27 n2 n3 c_lanes c_positions c_gap c_places n1 n4 c_byDistance = some x9 := hf
          unfold f_X5_sortByDistance_L27 at hf
          have hJ65 : ∀ (n1 : Int32) (n4 : Int32) (c_byDistance : Nat → Int32), f_X5_sortByDistance_L27_J65 n1 n2 n3 n4 c_lanes c_positions c_gap c_places c_byDistance = some x9 → ∀ (H : Heap) (locs : List Loc) (ls : Array Slot), va_P D vwCl [oX5 a0 c_lanes c_positions c_room c_gap c_places c_picked a_lot a_pieces a_mark a_byDistance, rI cI a_byDistance 48 c_byDistance] H → va_D A [oX5 a0 c_lanes c_positions c_room c_gap c_places c_picked a_lot a_pieces a_mark a_byDistance, rI cI a_byDistance 48 c_byDistance] → va_S A s.heap H locs → lv_has ls 5 [(0, .ref a0), (1, .int n1), (2, .int n2), (3, .int n3), (4, .int n4)] → WW H locs 0 0 (F0 m 65 ls []) := by
            intro n1 n4 c_byDistance hf H locs ls hP hD hS hl
            unfold f_X5_sortByDistance_L27_J65 at hf
            refine (hWW _ _ _ _ _).mpr ?_
            refine lv_iinc (v := (n4 + 1)) (lv' := [(4, .int (n4 + 1)), (0, .ref a0), (1, .int n1), (2, .int n2), (3, .int n3)]) hx hb dX5_sortByDistance_65 hl (k := 4) rfl rfl (by decide) rfl (fun ls hl => ?_)
            refine lv_goto (tgt := 27) hx hb dX5_sortByDistance_68 (by decide) ?_
            obtain rfl := Option.some.inj hf
            exact (hWW _ _ _ _ _).mp (ih _ _ _ _ _ _ _ hlp K _ _ ls hP hD hS (lv_sub hl [1, 2, 3, 4, 0] rfl))
          refine (hWW _ _ _ _ _).mpr ?_
          refine lv_iload hx hb dX5_sortByDistance_27 (lv_at hl 4 rfl) ?_
          refine lv_aload_n hx hb dX5_sortByDistance_29 rfl (lv_at hl 0 rfl) ?_
          refine va_get (D := D) (ci := 4) (v := .int c_places) (C := RX5) (T := TX5) (N := 10) hx hb hts (fun w h => mb (iX5 w h)) hown hK hP 0 rfl rfl 4 (by decide) (hts _ (mb tb_48)) (fun _ h9 => h9) rfl dX5_sortByDistance_30 ?_
          refine lv_icmp_ge (tgt := 71) hx hb dX5_sortByDistance_33 (by decide) (fun h2 => ?_) (fun h2 => ?_)
          · have hf := ipos h2 hf
            obtain rfl := Option.some.inj hf
            cases lpx_r hlp
            exact (hWW _ _ _ _ _).mp (K _ _ ls hP hD hS (lv_sub hl [0, 1, 2, 3] rfl))
          · have hf := ineg h2 hf
            refine lv_iload_n hx hb dX5_sortByDistance_36 rfl (lv_at hl 1 rfl) ?_
            refine lv_aload_n hx hb dX5_sortByDistance_37 rfl (lv_at hl 0 rfl) ?_
            refine va_get (D := D) (ci := 4) (v := .int c_places) (C := RX5) (T := TX5) (N := 10) hx hb hts (fun w h => mb (iX5 w h)) hown hK hP 0 rfl rfl 4 (by decide) (hts _ (mb tb_48)) (fun _ h9 => h9) rfl dX5_sortByDistance_38 ?_
            refine lv_icmp_ge (tgt := 71) hx hb dX5_sortByDistance_41 (by decide) (fun h3 => ?_) (fun h3 => ?_)
            · have hf := ipos h3 hf
              obtain rfl := Option.some.inj hf
              cases lpx_r hlp
              exact (hWW _ _ _ _ _).mp (K _ _ ls hP hD hS (lv_sub hl [0, 1, 2, 3] rfl))
            · have hf := ineg h3 hf
              refine lv_aload_n hx hb dX5_sortByDistance_44 rfl (lv_at hl 0 rfl) ?_
              refine lv_iload hx hb dX5_sortByDistance_45 (lv_at hl 4 rfl) ?_
              obtain ⟨r4, hc5, hf⟩ := ob1 hf
              refine ro_calli (r := r4) (va_runV (As := [.int n4]) (rest := []) ⟨hx, hb, hml, hown, hts⟩ (k_X5_distanceOf l hl0 D cI cJ cZ cS B0 H a0 a_lot a_pieces a_mark a_byDistance c_lanes c_positions c_room c_gap c_places c_picked n4 r4 hc5) (cwV 1 hts (gV tb_266 tb_267 tb_268 tb_3 tb_269) rfl rfl rfl (by decide +kernel) ⟨Nat.le_of_ble_eq_true rfl, Nat.le_of_ble_eq_true rfl⟩) ⟨rp_blind, va_recv hK hP (ci := 4) (q0 := 0) rfl rfl, rp_pre (hP.sub [0] rfl) hK (hBn _ _ hS) (hEn _ _ hS)⟩ rfl rfl hl.1 rfl (lv_room (Nat.le_of_ble_eq_true rfl)) dX5_sortByDistance_47 ⟨Nat.le_of_ble_eq_true rfl, Nat.le_of_ble_eq_true rfl⟩) ?_
              refine lv_iload_n hx hb dX5_sortByDistance_50 rfl (lv_at hl 3 rfl) ?_
              refine lv_icmp_ne (tgt := 65) hx hb dX5_sortByDistance_51 (by decide) (fun h6 => ?_) (fun h6 => ?_)
              · have hf := ineg h6 hf
                exact (hWW _ _ _ _ _).mp (hJ65 _ _ _ hf _ _ ls hP hD hS (lv_sub hl [0, 1, 2, 3, 4] rfl))
              · have hf := ipos h6 hf
                refine lv_aload_n hx hb dX5_sortByDistance_54 rfl (lv_at hl 0 rfl) ?_
                refine va_get (D := D) (ci := 4) (v := .ref a_byDistance) (C := RX5) (T := TX5) (N := 10) hx hb hts (fun w h => mb (iX5 w h)) hown hK hP 0 rfl rfl 9 (by decide) (hts _ (mb tb_58)) (fun _ h9 => h9) rfl dX5_sortByDistance_55 ?_
                refine lv_iload_n hx hb dX5_sortByDistance_58 rfl (lv_at hl 1 rfl) ?_
                refine lv_iload hx hb dX5_sortByDistance_59 (lv_at hl 4 rfl) ?_
                obtain ⟨h7, hf⟩ := ob_d hf
                refine va_iast hx hb hK hP hD hS 1 0 rfl rfl h7 dX5_sortByDistance_61 (fun H locs hP hD hS => ?_)
                have hP : va_P D vwCl [oX5 a0 c_lanes c_positions c_room c_gap c_places c_picked a_lot a_pieces a_mark a_byDistance, rI cI a_byDistance 48 (upd c_byDistance n1.toNatClampNeg n4)] H := hP
                have hD : va_D A [oX5 a0 c_lanes c_positions c_room c_gap c_places c_picked a_lot a_pieces a_mark a_byDistance, rI cI a_byDistance 48 (upd c_byDistance n1.toNatClampNeg n4)] := hD
                refine lv_iinc (v := (n1 + 1)) (lv' := [(1, .int (n1 + 1)), (0, .ref a0), (2, .int n2), (3, .int n3), (4, .int n4)]) hx hb dX5_sortByDistance_62 hl (k := 1) rfl rfl (by decide) rfl (fun ls hl => ?_)
                exact (hWW _ _ _ _ _).mp (hJ65 _ _ _ hf _ _ ls hP hD hS (lv_sub hl [1, 0, 2, 3, 4] rfl))
      refine (hWW _ _ _ _ _).mpr ?_
      refine lv_iload_n hx hb dX5_sortByDistance_19 rfl (lv_at hl 3 rfl) ?_
      refine lv_iload_n hx hb dX5_sortByDistance_20 rfl (lv_at hl 2 rfl) ?_
      refine lv_icmp_gt (tgt := 77) hx hb dX5_sortByDistance_21 (by decide) (fun h1 => ?_) (fun h1 => ?_)
      · have hf := ipos h1 hf
        obtain rfl := Option.some.inj hf
        cases lpx_r hlp
        exact (hWW _ _ _ _ _).mp (K _ _ ls hP hD hS (lv_sub hl [] rfl))
      · have hf := ineg h1 hf
        refine lv_iconst (v := 0) hx hb dX5_sortByDistance_24 (by decide) ?_
        refine lv_istore (lv' := [(4, .int 0), (0, .ref a0), (1, .int n1), (2, .int n2), (3, .int n3)]) hx hb dX5_sortByDistance_25 hl (by decide) rfl (fun ls hl => ?_)
        obtain ⟨m9, c10, hc8, hf⟩ := ob2 hf
        refine (hWW _ _ _ _ _).mp (hL27 fu _ _ _ _ _ _ _ hc8 (fun H locs ls hP hD hS hl => ?_) _ _ ls hP hD hS (lv_sub hl [1, 2, 3, 4, 0] rfl))
        · refine (hWW _ _ _ _ _).mpr ?_
          refine lv_iinc (v := (n3 + 1)) (lv' := [(3, .int (n3 + 1)), (0, .ref a0), (1, .int m9), (2, .int n2)]) hx hb dX5_sortByDistance_71 hl (k := 3) rfl rfl (by decide) rfl (fun ls hl => ?_)
          refine lv_goto (tgt := 19) hx hb dX5_sortByDistance_74 (by decide) ?_
          obtain rfl := Option.some.inj hf
          exact (hWW _ _ _ _ _).mp (ih _ _ _ _ _ hlp K _ _ ls hP hD hS (lv_sub hl [1, 2, 3, 0] rfl))
  refine (hWW _ _ _ _ _).mpr ?_
  refine lv_iconst (v := 0) hx hb dX5_sortByDistance_0 (by decide) ?_
  refine lv_istore_n (lv' := [(1, .int 0), (0, .ref a0)]) hx hb dX5_sortByDistance_1 rfl hl (by decide) rfl (fun ls hl => ?_)
  refine lv_aload_n hx hb dX5_sortByDistance_2 rfl (lv_at hl 1 rfl) ?_
  refine va_get (D := D) (ci := 4) (v := .int c_gap) (C := RX5) (T := TX5) (N := 10) hx hb hts (fun w h => mb (iX5 w h)) hown hK hP 0 rfl rfl 3 (by decide) (hts _ (mb tb_46)) (fun _ h9 => h9) rfl dX5_sortByDistance_3 ?_
  refine lv_aload_n hx hb dX5_sortByDistance_6 rfl (lv_at hl 1 rfl) ?_
  refine va_get (D := D) (ci := 4) (v := .int c_lanes) (C := RX5) (T := TX5) (N := 10) hx hb hts (fun w h => mb (iX5 w h)) hown hK hP 0 rfl rfl 0 (by decide) (hts _ (mb tb_40)) (fun _ h9 => h9) rfl dX5_sortByDistance_7 ?_
  refine lv_imul hx hb dX5_sortByDistance_10 ?_
  refine lv_aload_n hx hb dX5_sortByDistance_11 rfl (lv_at hl 1 rfl) ?_
  refine va_get (D := D) (ci := 4) (v := .int c_positions) (C := RX5) (T := TX5) (N := 10) hx hb hts (fun w h => mb (iX5 w h)) hown hK hP 0 rfl rfl 1 (by decide) (hts _ (mb tb_42)) (fun _ h9 => h9) rfl dX5_sortByDistance_12 ?_
  refine lv_iadd hx hb dX5_sortByDistance_15 ?_
  refine lv_istore_n (lv' := [(2, .int ((c_gap * c_lanes) + c_positions)), (1, .int 0), (0, .ref a0)]) hx hb dX5_sortByDistance_16 rfl hl (by decide) rfl (fun ls hl => ?_)
  refine lv_iconst (v := 1) hx hb dX5_sortByDistance_17 (by decide) ?_
  refine lv_istore_n (lv' := [(3, .int 1), (2, .int ((c_gap * c_lanes) + c_positions)), (1, .int 0), (0, .ref a0)]) hx hb dX5_sortByDistance_18 rfl hl (by decide) rfl (fun ls hl => ?_)
  obtain ⟨c12, hc11, hf⟩ := ob1 hf
  refine (hWW _ _ _ _ _).mp (hL19 fu _ _ _ _ _ hc11 (fun H locs ls hP hD hS hl => ?_) _ _ ls hP hD hS (lv_sub hl [3, 2, 1, 0] rfl))
  · refine (hWW _ _ _ _ _).mpr ?_
    cases hf
    refine W.widen (k := 0) (n := 0) (Nat.le_of_ble_eq_true rfl) (Nat.le_of_ble_eq_true rfl) ?_
    exact W.vret hx hb hr (fun t ht hW => ⟨⟨(), rfl, trivial, (by show va_P D vwCl _ t.heap; rw [ht]; exact hP)⟩, hS.F ht⟩) hS.2.2 dX5_sortByDistance_77
def f_X5_build_L47 (c_lanes : Int32) (c_positions : Int32) (c_room : Int32) (c_gap : Int32) (c_places : Int32) (c_picked : Int64) (c_byDistance : Nat → Int32) (n5 : Int32) (c_lot : Nat → Int32) (c_pieces : Nat → Int32) (c_mark : Nat → Int32) : Option ((Int32 × (Nat → Int32) × (Nat → Int32) × (Nat → Int32)) ⊕ ((Nat → Int32) × (Nat → Int32) × (Nat → Int32))) :=
  (if c_places ≤ n5 then some (.inr (c_lot, c_pieces, c_mark))
  else bnd3 (f_X5_set n5 (-1) 0 0 c_places c_lot c_pieces c_mark) (fun o4 o5 o6 =>
  (some (.inl (n5 + 1, o4, o5, o6)))))
def f_X5_build (v1 : Int32) (v2 : Int32) (v3 : Int32) (v4 : Int32) (c_lanes : Int32) (c_positions : Int32) (c_room : Int32) (c_gap : Int32) (c_places : Int32) (c_picked : Int64) (c_lot : Nat → Int32) (c_pieces : Nat → Int32) (c_mark : Nat → Int32) (c_byDistance : Nat → Int32) : Option (Int32 × Int32 × Int32 × Int32 × Int32 × Int64 × (Nat → Int32) × (Nat → Int32) × (Nat → Int32) × (Nat → Int32)) :=
  (bnd3 (loop (fun z => f_X5_build_L47 v1 v2 v3 v4 (if 48 < (v1 * v2) then 48 else (v1 * v2)) 0 c_byDistance z.1 z.2.1 z.2.2.1 z.2.2.2) fu (0, c_lot, c_pieces, c_mark)) fun c8 c9 c10 =>
  bnd1 (f_X5_sortByDistance v1 v2 v4 (if 48 < (v1 * v2) then 48 else (v1 * v2)) c_byDistance) (fun o13 =>
  (some (v1, v2, v3, v4, (if 48 < (v1 * v2) then 48 else (v1 * v2)), 0, c8, c9, c10, o13))))
set_option maxHeartbeats 4000000 in
set_option maxRecDepth 100000 in
theorem k_X5_build (l : Launch) (hl0 : l.stackTraces = false) (D : va_G) (cI cJ cZ cS : ClassId) (B0 : Nat) (sz : Nat) (a0 a_lot a_pieces a_mark a_byDistance : Nat) (c_lanes : Int32) (c_positions : Int32) (c_room : Int32) (c_gap : Int32) (c_places : Int32) (c_picked : Int64) (c_lot : Nat → Int32) (c_pieces : Nat → Int32) (c_mark : Nat → Int32) (c_byDistance : Nat → Int32) (v1 : Int32) (v2 : Int32) (v3 : Int32) (v4 : Int32) (oc_lanes : Int32) (oc_positions : Int32) (oc_room : Int32) (oc_gap : Int32) (oc_places : Int32) (oc_picked : Int64) (oc_lot : Nat → Int32) (oc_pieces : Nat → Int32) (oc_mark : Nat → Int32) (oc_byDistance : Nat → Int32)  (hf : f_X5_build v1 v2 v3 v4 c_lanes c_positions c_room c_gap c_places c_picked c_lot c_pieces c_mark c_byDistance = some (oc_lanes, oc_positions, oc_room, oc_gap, oc_places, oc_picked, oc_lot, oc_pieces, oc_mark, oc_byDistance)) : Met l yX5_build (wz yX5_build cX5_build 6 none) ({ frames := 2, cells := 0, slots := 0, locals := 45 }) (va_Pc [.ref a0, .int v1, .int v2, .int v3, .int v4] (wp D cI cJ cZ cS B0 [oX5 a0 c_lanes c_positions c_room c_gap c_places c_picked a_lot a_pieces a_mark a_byDistance, rI cI a_lot 48 c_lot, rI cI a_pieces 48 c_pieces, rI cI a_mark 48 c_mark, rI cI a_byDistance 48 c_byDistance] sz)) (va_Qv (fun (_ : Unit) => True) (fun _ t => va_P D vwCl [oX5 a0 oc_lanes oc_positions oc_room oc_gap oc_places oc_picked a_lot a_pieces a_mark a_byDistance, rI cI a_lot 48 oc_lot, rI cI a_pieces 48 oc_pieces, rI cI a_mark 48 oc_mark, rI cI a_byDistance 48 oc_byDistance] t.heap) (va_A [oX5 a0 c_lanes c_positions c_room c_gap c_places c_picked a_lot a_pieces a_mark a_byDistance, rI cI a_lot 48 c_lot, rI cI a_pieces 48 c_pieces, rI cI a_mark 48 c_mark, rI cI a_byDistance 48 c_byDistance] sz)) 0 0 (va_A [oX5 a0 c_lanes c_positions c_room c_gap c_places c_picked a_lot a_pieces a_mark a_byDistance, rI cI a_lot 48 c_lot, rI cI a_pieces 48 c_pieces, rI cI a_mark 48 c_mark, rI cI a_byDistance 48 c_byDistance] sz) := by
  refine Met.ofW (cc := cX5_build) (maxL := 6) (ret := none) (by decide) rfl ?_
  intro p e s m args below meth c s₁ B hml hv
  obtain ⟨rfl, hsz, hP, hK, hD0, hB0, hE⟩ := hv
  subst hsz
  have hx := B.exec
  have hb := B.bytes
  have hr := B.returns
  have hts := atoms_spec (ws := (wz yX5_build cX5_build 6 none)) B.pre
  have hown : s.vm.findClass RX5 = some m.cls := findClass_of_methodNamed B.named
  have hlocks := B.notSynchronized
  have hD := hD0.self (sz := s.heap.size)
  have hAB : ∀ q : Nat, va_A [oX5 a0 c_lanes c_positions c_room c_gap c_places c_picked a_lot a_pieces a_mark a_byDistance, rI cI a_lot 48 c_lot, rI cI a_pieces 48 c_pieces, rI cI a_mark 48 c_mark, rI cI a_byDistance 48 c_byDistance] s.heap.size q → B0 ≤ q := va_A_B hD0 hB0
  generalize hAe : va_A [oX5 a0 c_lanes c_positions c_room c_gap c_places c_picked a_lot a_pieces a_mark a_byDistance, rI cI a_lot 48 c_lot, rI cI a_pieces 48 c_pieces, rI cI a_mark 48 c_mark, rI cI a_byDistance 48 c_byDistance] s.heap.size = A at hD hAB ⊢
  have hA : ∀ q : Nat, s.heap.size ≤ q → A q := fun q h => by rw [← hAe]; exact Or.inr h
  have hFa := hA
  have hS : va_S A s.heap s.heap [] := va_S.rf
  have hBn := fun (H : Heap) (locs : List Loc) (h : va_S A s.heap H locs) => Nat.le_trans hB0 h.1
  have hEn := fun (H : Heap) (locs : List Loc) (h : va_S A s.heap H locs) => gE_now hE h hAB
  have hl := lv_entry ([.ref a0, .int v1, .int v2, .int v3, .int v4]) (n := 6) (Nat.le_of_ble_eq_true rfl)
  rw [lg_entry_eq]
  generalize (lg_sl ([.ref a0, .int v1, .int v2, .int v3, .int v4]) ++ List.replicate (6 - (lg_sl ([.ref a0, .int v1, .int v2, .int v3, .int v4])).length) Slot.unset).toArray = ls at hl ⊢
  have hl : lv_has ls 6 [(0, .ref a0), (1, .int v1), (2, .int v2), (3, .int v3), (4, .int v4)] := hl
  obtain ⟨H, hHe⟩ : ∃ H : Heap, H = s.heap := ⟨_, rfl⟩
  have hP : va_P D vwCl [oX5 a0 c_lanes c_positions c_room c_gap c_places c_picked a_lot a_pieces a_mark a_byDistance, rI cI a_lot 48 c_lot, rI cI a_pieces 48 c_pieces, rI cI a_mark 48 c_mark, rI cI a_byDistance 48 c_byDistance] H := by rw [hHe]; exact hP
  have hS : va_S A s.heap H [] := by rw [hHe]; exact hS
  refine W_heq hHe ?_
  unfold f_X5_build at hf
  refine gen_goW (fun WW hWW => ?_)
  have hL47 : ∀ (n : Nat) (c_lanes : Int32) (c_positions : Int32) (c_room : Int32) (c_gap : Int32) (c_places : Int32) (c_picked : Int64) (c_byDistance : Nat → Int32) (n5 : Int32) (c_lot : Nat → Int32) (c_pieces : Nat → Int32) (c_mark : Nat → Int32) (e_c_lot : Nat → Int32) (e_c_pieces : Nat → Int32) (e_c_mark : Nat → Int32), loop (fun z => f_X5_build_L47 c_lanes c_positions c_room c_gap c_places c_picked c_byDistance z.1 z.2.1 z.2.2.1 z.2.2.2) n (n5, c_lot, c_pieces, c_mark) = some (e_c_lot, e_c_pieces, e_c_mark) → (∀ (H : Heap) (locs : List Loc) (ls : Array Slot), va_P D vwCl [oX5 a0 c_lanes c_positions c_room c_gap c_places c_picked a_lot a_pieces a_mark a_byDistance, rI cI a_lot 48 e_c_lot, rI cI a_pieces 48 e_c_pieces, rI cI a_mark 48 e_c_mark, rI cI a_byDistance 48 c_byDistance] H → va_D A [oX5 a0 c_lanes c_positions c_room c_gap c_places c_picked a_lot a_pieces a_mark a_byDistance, rI cI a_lot 48 e_c_lot, rI cI a_pieces 48 e_c_pieces, rI cI a_mark 48 e_c_mark, rI cI a_byDistance 48 c_byDistance] → va_S A s.heap H locs → lv_has ls 6 [(0, .ref a0)] → WW H locs 0 0 (F0 m 71 ls [])) → ∀ (H : Heap) (locs : List Loc) (ls : Array Slot), va_P D vwCl [oX5 a0 c_lanes c_positions c_room c_gap c_places c_picked a_lot a_pieces a_mark a_byDistance, rI cI a_lot 48 c_lot, rI cI a_pieces 48 c_pieces, rI cI a_mark 48 c_mark, rI cI a_byDistance 48 c_byDistance] H → va_D A [oX5 a0 c_lanes c_positions c_room c_gap c_places c_picked a_lot a_pieces a_mark a_byDistance, rI cI a_lot 48 c_lot, rI cI a_pieces 48 c_pieces, rI cI a_mark 48 c_mark, rI cI a_byDistance 48 c_byDistance] → va_S A s.heap H locs → lv_has ls 6 [(0, .ref a0), (5, .int n5)] → WW H locs 0 0 (F0 m 47 ls []) := by
    intro n
    induction n with
    | zero =>
      intro c_lanes c_positions c_room c_gap c_places c_picked c_byDistance n5 c_lot c_pieces c_mark e_c_lot e_c_pieces e_c_mark hlp
      exact absurd hlp (by simp [loop])
    | succ n ih =>
      intro c_lanes c_positions c_room c_gap c_places c_picked c_byDistance n5 c_lot c_pieces c_mark e_c_lot e_c_pieces e_c_mark hlp K H locs ls hP hD hS hl
      obtain ⟨x9, hf, hlp⟩ := loop_s hlp
      have hf : f_X5_build_L47 c_lanes c_positions c_room c_gap c_places c_picked c_byDistance n5 c_lot c_pieces c_mark = some x9 := hf
      unfold f_X5_build_L47 at hf
      refine (hWW _ _ _ _ _).mpr ?_
      refine lv_iload hx hb dX5_build_47 (lv_at hl 1 rfl) ?_
      refine lv_aload_n hx hb dX5_build_49 rfl (lv_at hl 0 rfl) ?_
      refine va_get (D := D) (ci := 4) (v := .int c_places) (C := RX5) (T := TX5) (N := 10) hx hb hts (fun w h => mb (iX5 w h)) hown hK hP 0 rfl rfl 4 (by decide) (hts _ (mb tb_48)) (fun _ h9 => h9) rfl dX5_build_50 ?_
      refine lv_icmp_ge (tgt := 71) hx hb dX5_build_53 (by decide) (fun h1 => ?_) (fun h1 => ?_)
      · have hf := ipos h1 hf
        obtain rfl := Option.some.inj hf
        cases lpx_r hlp
        exact (hWW _ _ _ _ _).mp (K _ _ ls hP hD hS (lv_sub hl [0] rfl))
      · have hf := ineg h1 hf
        refine lv_aload_n hx hb dX5_build_56 rfl (lv_at hl 0 rfl) ?_
        refine lv_iload hx hb dX5_build_57 (lv_at hl 1 rfl) ?_
        refine lv_iconst (v := (-1)) hx hb dX5_build_59 (by decide) ?_
        refine lv_iconst (v := 0) hx hb dX5_build_60 (by decide) ?_
        refine lv_iconst (v := 0) hx hb dX5_build_61 (by decide) ?_
        obtain ⟨o4, o5, o6, hc3, hf⟩ := ob3 hf
        refine rw_callv (va_runV (As := [.int n5, .int (-1), .int 0, .int 0]) (rest := []) ⟨hx, hb, hml, hown, hts⟩ (k_X5_set l hl0 D cI cJ cZ cS B0 H.size a0 a_lot a_pieces a_mark a_byDistance c_lanes c_positions c_room c_gap c_places c_picked c_lot c_pieces c_mark n5 (-1) 0 0 o4 o5 o6 hc3) (cwV 4 hts (gV tb_254 tb_255 tb_256 tb_3 tb_257) rfl rfl rfl (by decide +kernel) ⟨Nat.le_of_ble_eq_true rfl, Nat.le_of_ble_eq_true rfl⟩) ⟨wp_blind, va_recv hK hP (ci := 4) (q0 := 0) rfl rfl, wp_pre (hP.sub [0, 1, 2, 3] rfl) hK (va_D.sub (hD.weaken (fun _ _ _ h9 => hAB _ h9)) [0, 1, 2, 3] rfl rfl) (hBn _ _ hS) (hEn _ _ hS)⟩ rfl rfl hl.1 rfl (lv_room (Nat.le_of_ble_eq_true rfl)) dX5_build_62 ⟨Nat.le_of_ble_eq_true rfl, Nat.le_of_ble_eq_true rfl⟩) hP hD hS hA hFa [0, 1, 2, 3] rfl rfl (fun H locs hP hD hS => ?_)
        have hP : va_P D vwCl [oX5 a0 c_lanes c_positions c_room c_gap c_places c_picked a_lot a_pieces a_mark a_byDistance, rI cI a_lot 48 o4, rI cI a_pieces 48 o5, rI cI a_mark 48 o6, rI cI a_byDistance 48 c_byDistance] H := hP
        have hD : va_D A [oX5 a0 c_lanes c_positions c_room c_gap c_places c_picked a_lot a_pieces a_mark a_byDistance, rI cI a_lot 48 o4, rI cI a_pieces 48 o5, rI cI a_mark 48 o6, rI cI a_byDistance 48 c_byDistance] := hD
        refine lv_iinc (v := (n5 + 1)) (lv' := [(5, .int (n5 + 1)), (0, .ref a0)]) hx hb dX5_build_65 hl (k := 1) rfl rfl (by decide) rfl (fun ls hl => ?_)
        refine lv_goto (tgt := 47) hx hb dX5_build_68 (by decide) ?_
        obtain rfl := Option.some.inj hf
        exact (hWW _ _ _ _ _).mp (ih _ _ _ _ _ _ _ _ _ _ _ _ _ _ hlp K _ _ ls hP hD hS (lv_sub hl [1, 0] rfl))
  refine (hWW _ _ _ _ _).mpr ?_
  refine lv_aload_n hx hb dX5_build_0 rfl (lv_at hl 0 rfl) ?_
  refine lv_iload_n hx hb dX5_build_1 rfl (lv_at hl 1 rfl) ?_
  refine va_put (D := D) (ci := 4) (v := .int v1) (ty := .int) (C := RX5) (T := TX5) (N := 10) hx hb hts (fun w h => mb (iX5 w h)) tyX5 tyX5_ok nmX5 hown hK hP hD hS 0 rfl rfl 0 (by decide) (hts _ (mb tb_40)) (fun _ h9 => h9) rfl (by decide +kernel) rfl rfl (Nat.le_of_ble_eq_true rfl) dX5_build_2 (fun H locs hP hD hS => ?_)
  have hP : va_P D vwCl [oX5 a0 v1 c_positions c_room c_gap c_places c_picked a_lot a_pieces a_mark a_byDistance, rI cI a_lot 48 c_lot, rI cI a_pieces 48 c_pieces, rI cI a_mark 48 c_mark, rI cI a_byDistance 48 c_byDistance] H := hP
  have hD : va_D A [oX5 a0 v1 c_positions c_room c_gap c_places c_picked a_lot a_pieces a_mark a_byDistance, rI cI a_lot 48 c_lot, rI cI a_pieces 48 c_pieces, rI cI a_mark 48 c_mark, rI cI a_byDistance 48 c_byDistance] := hD
  refine lv_aload_n hx hb dX5_build_5 rfl (lv_at hl 0 rfl) ?_
  refine lv_iload_n hx hb dX5_build_6 rfl (lv_at hl 2 rfl) ?_
  refine va_put (D := D) (ci := 4) (v := .int v2) (ty := .int) (C := RX5) (T := TX5) (N := 10) hx hb hts (fun w h => mb (iX5 w h)) tyX5 tyX5_ok nmX5 hown hK hP hD hS 0 rfl rfl 1 (by decide) (hts _ (mb tb_42)) (fun _ h9 => h9) rfl (by decide +kernel) rfl rfl (Nat.le_of_ble_eq_true rfl) dX5_build_7 (fun H locs hP hD hS => ?_)
  have hP : va_P D vwCl [oX5 a0 v1 v2 c_room c_gap c_places c_picked a_lot a_pieces a_mark a_byDistance, rI cI a_lot 48 c_lot, rI cI a_pieces 48 c_pieces, rI cI a_mark 48 c_mark, rI cI a_byDistance 48 c_byDistance] H := hP
  have hD : va_D A [oX5 a0 v1 v2 c_room c_gap c_places c_picked a_lot a_pieces a_mark a_byDistance, rI cI a_lot 48 c_lot, rI cI a_pieces 48 c_pieces, rI cI a_mark 48 c_mark, rI cI a_byDistance 48 c_byDistance] := hD
  refine lv_aload_n hx hb dX5_build_10 rfl (lv_at hl 0 rfl) ?_
  refine lv_iload_n hx hb dX5_build_11 rfl (lv_at hl 3 rfl) ?_
  refine va_put (D := D) (ci := 4) (v := .int v3) (ty := .int) (C := RX5) (T := TX5) (N := 10) hx hb hts (fun w h => mb (iX5 w h)) tyX5 tyX5_ok nmX5 hown hK hP hD hS 0 rfl rfl 2 (by decide) (hts _ (mb tb_44)) (fun _ h9 => h9) rfl (by decide +kernel) rfl rfl (Nat.le_of_ble_eq_true rfl) dX5_build_12 (fun H locs hP hD hS => ?_)
  have hP : va_P D vwCl [oX5 a0 v1 v2 v3 c_gap c_places c_picked a_lot a_pieces a_mark a_byDistance, rI cI a_lot 48 c_lot, rI cI a_pieces 48 c_pieces, rI cI a_mark 48 c_mark, rI cI a_byDistance 48 c_byDistance] H := hP
  have hD : va_D A [oX5 a0 v1 v2 v3 c_gap c_places c_picked a_lot a_pieces a_mark a_byDistance, rI cI a_lot 48 c_lot, rI cI a_pieces 48 c_pieces, rI cI a_mark 48 c_mark, rI cI a_byDistance 48 c_byDistance] := hD
  refine lv_aload_n hx hb dX5_build_15 rfl (lv_at hl 0 rfl) ?_
  refine lv_iload hx hb dX5_build_16 (lv_at hl 4 rfl) ?_
  refine va_put (D := D) (ci := 4) (v := .int v4) (ty := .int) (C := RX5) (T := TX5) (N := 10) hx hb hts (fun w h => mb (iX5 w h)) tyX5 tyX5_ok nmX5 hown hK hP hD hS 0 rfl rfl 3 (by decide) (hts _ (mb tb_46)) (fun _ h9 => h9) rfl (by decide +kernel) rfl rfl (Nat.le_of_ble_eq_true rfl) dX5_build_18 (fun H locs hP hD hS => ?_)
  have hP : va_P D vwCl [oX5 a0 v1 v2 v3 v4 c_places c_picked a_lot a_pieces a_mark a_byDistance, rI cI a_lot 48 c_lot, rI cI a_pieces 48 c_pieces, rI cI a_mark 48 c_mark, rI cI a_byDistance 48 c_byDistance] H := hP
  have hD : va_D A [oX5 a0 v1 v2 v3 v4 c_places c_picked a_lot a_pieces a_mark a_byDistance, rI cI a_lot 48 c_lot, rI cI a_pieces 48 c_pieces, rI cI a_mark 48 c_mark, rI cI a_byDistance 48 c_byDistance] := hD
  refine lv_aload_n hx hb dX5_build_21 rfl (lv_at hl 0 rfl) ?_
  refine lv_aload_n hx hb dX5_build_22 rfl (lv_at hl 0 rfl) ?_
  refine va_get (D := D) (ci := 4) (v := .int v1) (C := RX5) (T := TX5) (N := 10) hx hb hts (fun w h => mb (iX5 w h)) hown hK hP 0 rfl rfl 0 (by decide) (hts _ (mb tb_40)) (fun _ h9 => h9) rfl dX5_build_23 ?_
  refine lv_aload_n hx hb dX5_build_26 rfl (lv_at hl 0 rfl) ?_
  refine va_get (D := D) (ci := 4) (v := .int v2) (C := RX5) (T := TX5) (N := 10) hx hb hts (fun w h => mb (iX5 w h)) hown hK hP 0 rfl rfl 1 (by decide) (hts _ (mb tb_42)) (fun _ h9 => h9) rfl dX5_build_27 ?_
  refine lv_imul hx hb dX5_build_30 ?_
  refine lv_bipush (v := 48) hx hb dX5_build_31 (by decide) ?_
  refine va_mmin hx hb (hml.trans hl.1.symm) hown (hts _ (mb tb_251)) (hts _ (mb tb_252)) (hts _ (mb tb_8)) (hts _ (mb wm_min)) (Nat.le_of_ble_eq_true rfl) (Nat.le_of_ble_eq_true rfl) (Nat.zero_le _) (Nat.zero_le _) dX5_build_33 ?_
  refine va_put (D := D) (ci := 4) (v := .int (if 48 < (v1 * v2) then 48 else (v1 * v2))) (ty := .int) (C := RX5) (T := TX5) (N := 10) hx hb hts (fun w h => mb (iX5 w h)) tyX5 tyX5_ok nmX5 hown hK hP hD hS 0 rfl rfl 4 (by decide) (hts _ (mb tb_48)) (fun _ h9 => h9) rfl (by decide +kernel) rfl rfl (Nat.le_of_ble_eq_true rfl) dX5_build_36 (fun H locs hP hD hS => ?_)
  have hP : va_P D vwCl [oX5 a0 v1 v2 v3 v4 (if 48 < (v1 * v2) then 48 else (v1 * v2)) c_picked a_lot a_pieces a_mark a_byDistance, rI cI a_lot 48 c_lot, rI cI a_pieces 48 c_pieces, rI cI a_mark 48 c_mark, rI cI a_byDistance 48 c_byDistance] H := hP
  have hD : va_D A [oX5 a0 v1 v2 v3 v4 (if 48 < (v1 * v2) then 48 else (v1 * v2)) c_picked a_lot a_pieces a_mark a_byDistance, rI cI a_lot 48 c_lot, rI cI a_pieces 48 c_pieces, rI cI a_mark 48 c_mark, rI cI a_byDistance 48 c_byDistance] := hD
  refine lv_aload_n hx hb dX5_build_39 rfl (lv_at hl 0 rfl) ?_
  refine lv_lconst (v := 0) hx hb dX5_build_40 (by decide) ?_
  refine va_put (D := D) (ci := 4) (v := .long 0) (ty := .long) (C := RX5) (T := TX5) (N := 10) hx hb hts (fun w h => mb (iX5 w h)) tyX5 tyX5_ok nmX5 hown hK hP hD hS 0 rfl rfl 5 (by decide) (hts _ (mb tb_50)) (fun _ h9 => h9) rfl (by decide +kernel) rfl rfl (Nat.le_of_ble_eq_true rfl) dX5_build_41 (fun H locs hP hD hS => ?_)
  have hP : va_P D vwCl [oX5 a0 v1 v2 v3 v4 (if 48 < (v1 * v2) then 48 else (v1 * v2)) 0 a_lot a_pieces a_mark a_byDistance, rI cI a_lot 48 c_lot, rI cI a_pieces 48 c_pieces, rI cI a_mark 48 c_mark, rI cI a_byDistance 48 c_byDistance] H := hP
  have hD : va_D A [oX5 a0 v1 v2 v3 v4 (if 48 < (v1 * v2) then 48 else (v1 * v2)) 0 a_lot a_pieces a_mark a_byDistance, rI cI a_lot 48 c_lot, rI cI a_pieces 48 c_pieces, rI cI a_mark 48 c_mark, rI cI a_byDistance 48 c_byDistance] := hD
  refine lv_iconst (v := 0) hx hb dX5_build_44 (by decide) ?_
  refine lv_istore (lv' := [(5, .int 0), (0, .ref a0), (1, .int v1), (2, .int v2), (3, .int v3), (4, .int v4)]) hx hb dX5_build_45 hl (by decide) rfl (fun ls hl => ?_)
  obtain ⟨c8, c9, c10, hc7, hf⟩ := ob3 hf
  refine (hWW _ _ _ _ _).mp (hL47 fu _ _ _ _ _ _ _ _ _ _ _ _ _ _ hc7 (fun H locs ls hP hD hS hl => ?_) _ _ ls hP hD hS (lv_sub hl [1, 0] rfl))
  · refine (hWW _ _ _ _ _).mpr ?_
    refine lv_aload_n hx hb dX5_build_71 rfl (lv_at hl 0 rfl) ?_
    obtain ⟨o13, hc12, hf⟩ := ob1 hf
    refine rw_callv (va_runV (As := []) (rest := []) ⟨hx, hb, hml, hown, hts⟩ (k_X5_sortByDistance l hl0 D cI cJ cZ cS B0 H.size a0 a_lot a_pieces a_mark a_byDistance v1 v2 v3 v4 (if 48 < (v1 * v2) then 48 else (v1 * v2)) 0 c_byDistance o13 hc12) (cwV 0 hts (gV tb_262 tb_264 ts_0 tb_3 tb_265) rfl rfl rfl (by decide +kernel) ⟨Nat.le_of_ble_eq_true rfl, Nat.le_of_ble_eq_true rfl⟩) ⟨wp_blind, va_recv hK hP (ci := 4) (q0 := 0) rfl rfl, wp_pre (hP.sub [0, 4] rfl) hK (va_D.sub (hD.weaken (fun _ _ _ h9 => hAB _ h9)) [0, 4] rfl rfl) (hBn _ _ hS) (hEn _ _ hS)⟩ rfl rfl hl.1 rfl (lv_room (Nat.le_of_ble_eq_true rfl)) dX5_build_72 ⟨Nat.le_of_ble_eq_true rfl, Nat.le_of_ble_eq_true rfl⟩) hP hD hS hA hFa [0, 4] rfl rfl (fun H locs hP hD hS => ?_)
    have hP : va_P D vwCl [oX5 a0 v1 v2 v3 v4 (if 48 < (v1 * v2) then 48 else (v1 * v2)) 0 a_lot a_pieces a_mark a_byDistance, rI cI a_lot 48 c8, rI cI a_pieces 48 c9, rI cI a_mark 48 c10, rI cI a_byDistance 48 o13] H := hP
    have hD : va_D A [oX5 a0 v1 v2 v3 v4 (if 48 < (v1 * v2) then 48 else (v1 * v2)) 0 a_lot a_pieces a_mark a_byDistance, rI cI a_lot 48 c8, rI cI a_pieces 48 c9, rI cI a_mark 48 c10, rI cI a_byDistance 48 o13] := hD
    cases hf
    refine W.widen (k := 0) (n := 0) (Nat.le_of_ble_eq_true rfl) (Nat.le_of_ble_eq_true rfl) ?_
    exact W.vret hx hb hr (fun t ht hW => ⟨⟨(), rfl, trivial, (by show va_P D vwCl _ t.heap; rw [ht]; exact hP)⟩, hS.F ht⟩) hS.2.2 dX5_build_75
