def f_X0_daysOfYear (v0 : Int32) : Option (Int32) :=
  (if (v0 - v0 / 4 * 4) = 0 then some 366
  else some 365)
set_option maxHeartbeats 4000000 in
set_option maxRecDepth 100000 in
theorem k_X0_daysOfYear (l : Launch) (hl0 : l.stackTraces = false) (D : va_G) (cI cJ cZ cS : ClassId) (B0 : Nat) (H0 : Heap) (v0 : Int32) (r9 : Int32)  (hf : f_X0_daysOfYear v0 = some r9) : Met l yX0_daysOfYear (wz yX0_daysOfYear cX0_daysOfYear 1 (some .int)) ({ frames := 0, cells := 0, slots := 0, locals := 0 }) (va_Pc [.int v0] (rp D cI cJ cZ cS B0 [] H0)) (va_Qi (fun (r2 : Int32) (_ : Unit) => r2 = r9) (fun _ t => t.heap = H0) (fun q => H0.size ≤ q)) 0 0 (fun q => H0.size ≤ q) := by
  refine Met.ofW (cc := cX0_daysOfYear) (maxL := 1) (ret := (some .int)) (by decide) rfl ?_
  intro p e s m args below meth c s₁ B hml hv
  obtain ⟨rfl, hH, hP, hK, hB0, hE⟩ := hv
  subst hH
  have hx := B.exec
  have hb := B.bytes
  have hr := B.returns
  have hts := atoms_spec (ws := (wz yX0_daysOfYear cX0_daysOfYear 1 (some .int))) B.pre
  have hown : s.vm.findClass RX0 = some m.cls := findClass_of_methodNamed B.named
  have hlocks := B.notSynchronized
  have hAB : ∀ q : Nat, s.heap.size ≤ q → B0 ≤ q := fun q h => Nat.le_trans hB0 h
  have hA : ∀ q : Nat, s.heap.size ≤ q → s.heap.size ≤ q := fun _ h => h
  have hS : va_S (fun q => s.heap.size ≤ q) s.heap s.heap [] := va_S.rf
  have hBn := fun (H : Heap) (locs : List Loc) (h : va_S (fun q => s.heap.size ≤ q) s.heap H locs) => Nat.le_trans hB0 h.1
  have hEn := fun (H : Heap) (locs : List Loc) (h : va_S (fun q => s.heap.size ≤ q) s.heap H locs) => gE_now hE h hAB
  have hl := lv_entry ([.int v0]) (n := 1) (Nat.le_of_ble_eq_true rfl)
  rw [lg_entry_eq]
  generalize (lg_sl ([.int v0]) ++ List.replicate (1 - (lg_sl ([.int v0])).length) Slot.unset).toArray = ls at hl ⊢
  have hl : lv_has ls 1 [(0, .int v0)] := hl
  obtain ⟨H, hHe⟩ : ∃ H : Heap, H = s.heap := ⟨_, rfl⟩
  have hP : va_P D vwCl [] H := by rw [hHe]; exact hP
  have hS : va_S (fun q => s.heap.size ≤ q) s.heap H [] := by rw [hHe]; exact hS
  refine W_heq hHe ?_
  unfold f_X0_daysOfYear at hf
  refine lv_iload_n hx hb dX0_daysOfYear_0 rfl (lv_at hl 0 rfl) ?_
  refine lv_iconst (v := 4) hx hb dX0_daysOfYear_1 (by decide) ?_
  refine lv_irem hx hb dX0_daysOfYear_2 (by decide) ?_
  refine lv_if_ne (tgt := 12) hx hb dX0_daysOfYear_3 (by decide) (fun h1 => ?_) (fun h1 => ?_)
  · have hf := ineg h1 hf
    refine lv_sipush (v := 365) hx hb dX0_daysOfYear_12 (by decide) ?_
    cases hf
    exact W.iret hx hb hr (fun t ht hW => ⟨⟨_, (), rfl, rfl, (ht.trans hHe)⟩, hS.F ht⟩) hS.2.2 dX0_daysOfYear_15
  · have hf := ipos h1 hf
    refine lv_sipush (v := 366) hx hb dX0_daysOfYear_6 (by decide) ?_
    refine lv_goto (tgt := 15) hx hb dX0_daysOfYear_9 (by decide) ?_
    cases hf
    exact W.iret hx hb hr (fun t ht hW => ⟨⟨_, (), rfl, rfl, (ht.trans hHe)⟩, hS.F ht⟩) hS.2.2 dX0_daysOfYear_15
def f_X0_daysOfMonth_J31 (n1 : Int32) : Option (Int32) :=
  gd (n1 - 1) 12 (some (mdays (n1 - 1).toNatClampNeg))
def f_X0_daysOfMonth (v0 : Int32) (v1 : Int32) : Option (Int32) :=
  (if v1 < 1 then some 0
  else (if v1 ≤ 12 then (if v1 = 2 then (if (v0 - v0 / 4 * 4) = 0 then some 29
  else f_X0_daysOfMonth_J31 v1)
  else f_X0_daysOfMonth_J31 v1)
  else some 0))
set_option maxHeartbeats 4000000 in
set_option maxRecDepth 100000 in
theorem k_X0_daysOfMonth (l : Launch) (hl0 : l.stackTraces = false) (D : va_G) (cI cJ cZ cS : ClassId) (B0 : Nat) (H0 : Heap) (v0 : Int32) (v1 : Int32) (r9 : Int32)  (hf : f_X0_daysOfMonth v0 v1 = some r9) : Met l yX0_daysOfMonth (wz yX0_daysOfMonth cX0_daysOfMonth 2 (some .int)) ({ frames := 0, cells := 0, slots := 0, locals := 0 }) (va_Pc [.int v0, .int v1] (rp D cI cJ cZ cS B0 [] H0)) (va_Qi (fun (r2 : Int32) (_ : Unit) => r2 = r9) (fun _ t => t.heap = H0) (fun q => H0.size ≤ q)) 0 0 (fun q => H0.size ≤ q) := by
  refine Met.ofW (cc := cX0_daysOfMonth) (maxL := 2) (ret := (some .int)) (by decide) rfl ?_
  intro p e s m args below meth c s₁ B hml hv
  obtain ⟨rfl, hH, hP, hK, hB0, hE⟩ := hv
  subst hH
  have hx := B.exec
  have hb := B.bytes
  have hr := B.returns
  have hts := atoms_spec (ws := (wz yX0_daysOfMonth cX0_daysOfMonth 2 (some .int))) B.pre
  have hown : s.vm.findClass RX0 = some m.cls := findClass_of_methodNamed B.named
  have hlocks := B.notSynchronized
  have hAB : ∀ q : Nat, s.heap.size ≤ q → B0 ≤ q := fun q h => Nat.le_trans hB0 h
  have hA : ∀ q : Nat, s.heap.size ≤ q → s.heap.size ≤ q := fun _ h => h
  have hS : va_S (fun q => s.heap.size ≤ q) s.heap s.heap [] := va_S.rf
  obtain ⟨am, hZm, hPm, -⟩ := hE.2
  have hBn := fun (H : Heap) (locs : List Loc) (h : va_S (fun q => s.heap.size ≤ q) s.heap H locs) => Nat.le_trans hB0 h.1
  have hEn := fun (H : Heap) (locs : List Loc) (h : va_S (fun q => s.heap.size ≤ q) s.heap H locs) => gE_now hE h hAB
  have hl := lv_entry ([.int v0, .int v1]) (n := 2) (Nat.le_of_ble_eq_true rfl)
  rw [lg_entry_eq]
  generalize (lg_sl ([.int v0, .int v1]) ++ List.replicate (2 - (lg_sl ([.int v0, .int v1])).length) Slot.unset).toArray = ls at hl ⊢
  have hl : lv_has ls 2 [(0, .int v0), (1, .int v1)] := hl
  obtain ⟨H, hHe⟩ : ∃ H : Heap, H = s.heap := ⟨_, rfl⟩
  have hP : va_P D vwCl [] H := by rw [hHe]; exact hP
  have hS : va_S (fun q => s.heap.size ≤ q) s.heap H [] := by rw [hHe]; exact hS
  refine W_heq hHe ?_
  unfold f_X0_daysOfMonth at hf
  refine gen_go (fun WW hWW => ?_)
  have hJ31 : ∀ (n1 : Int32), f_X0_daysOfMonth_J31 n1 = some r9 → ∀ (ls : Array Slot), lv_has ls 2 [(1, .int n1)] → WW (F0 m 31 ls []) := by
    intro n1 hf ls hl
    unfold f_X0_daysOfMonth_J31 at hf
    refine (hWW _).mpr ?_
    refine va_gets hx hb (va_Z_narrow hZm hAB) hS hown (hts _ (mb tb_613)) (fun _ h9 => h9) dX0_daysOfMonth_31 ?_
    refine lv_iload_n hx hb dX0_daysOfMonth_34 rfl (lv_at hl 0 rfl) ?_
    refine lv_iconst (v := 1) hx hb dX0_daysOfMonth_35 (by decide) ?_
    refine lv_isub hx hb dX0_daysOfMonth_36 ?_
    obtain ⟨h4, hf⟩ := ob_d hf
    refine va_ti hx hb (hPm.narrow hAB) hS h4 rfl dX0_daysOfMonth_37 ?_
    cases hf
    exact W.iret hx hb hr (fun t ht hW => ⟨⟨_, (), rfl, rfl, (ht.trans hHe)⟩, hS.F ht⟩) hS.2.2 dX0_daysOfMonth_38
  refine (hWW _).mpr ?_
  refine lv_iload_n hx hb dX0_daysOfMonth_0 rfl (lv_at hl 1 rfl) ?_
  refine lv_iconst (v := 1) hx hb dX0_daysOfMonth_1 (by decide) ?_
  refine lv_icmp_lt (tgt := 13) hx hb dX0_daysOfMonth_2 (by decide) (fun h1 => ?_) (fun h1 => ?_)
  · have hf := ipos h1 hf
    refine lv_iconst (v := 0) hx hb dX0_daysOfMonth_13 (by decide) ?_
    cases hf
    exact W.iret hx hb hr (fun t ht hW => ⟨⟨_, (), rfl, rfl, (ht.trans hHe)⟩, hS.F ht⟩) hS.2.2 dX0_daysOfMonth_14
  · have hf := ineg h1 hf
    refine lv_iload_n hx hb dX0_daysOfMonth_5 rfl (lv_at hl 1 rfl) ?_
    refine va_gets hx hb (va_Z_narrow hZm hAB) hS hown (hts _ (mb tb_613)) (fun _ h9 => h9) dX0_daysOfMonth_6 ?_
    refine va_tlen (v := 12) hx hb (hPm.narrow hAB) hS rfl dX0_daysOfMonth_9 ?_
    refine lv_icmp_le (tgt := 15) hx hb dX0_daysOfMonth_10 (by decide) (fun h2 => ?_) (fun h2 => ?_)
    · have hf := ipos h2 hf
      refine lv_iload_n hx hb dX0_daysOfMonth_15 rfl (lv_at hl 1 rfl) ?_
      refine lv_iconst (v := 2) hx hb dX0_daysOfMonth_16 (by decide) ?_
      refine lv_icmp_ne (tgt := 31) hx hb dX0_daysOfMonth_17 (by decide) (fun h3 => ?_) (fun h3 => ?_)
      · have hf := ineg h3 hf
        exact (hWW _).mp (hJ31 _ hf ls (lv_sub hl [1] rfl))
      · have hf := ipos h3 hf
        refine lv_iload_n hx hb dX0_daysOfMonth_20 rfl (lv_at hl 0 rfl) ?_
        refine lv_iconst (v := 4) hx hb dX0_daysOfMonth_21 (by decide) ?_
        refine lv_irem hx hb dX0_daysOfMonth_22 (by decide) ?_
        refine lv_if_ne (tgt := 31) hx hb dX0_daysOfMonth_23 (by decide) (fun h5 => ?_) (fun h5 => ?_)
        · have hf := ineg h5 hf
          exact (hWW _).mp (hJ31 _ hf ls (lv_sub hl [1] rfl))
        · have hf := ipos h5 hf
          refine lv_bipush (v := 29) hx hb dX0_daysOfMonth_26 (by decide) ?_
          refine lv_goto (tgt := 38) hx hb dX0_daysOfMonth_28 (by decide) ?_
          cases hf
          exact W.iret hx hb hr (fun t ht hW => ⟨⟨_, (), rfl, rfl, (ht.trans hHe)⟩, hS.F ht⟩) hS.2.2 dX0_daysOfMonth_38
    · have hf := ineg h2 hf
      refine lv_iconst (v := 0) hx hb dX0_daysOfMonth_13 (by decide) ?_
      cases hf
      exact W.iret hx hb hr (fun t ht hW => ⟨⟨_, (), rfl, rfl, (ht.trans hHe)⟩, hS.F ht⟩) hS.2.2 dX0_daysOfMonth_14
def f_X0_numberOf_L9 (n0 : Int32) (n1 : Int32) (n3 : Int32) (n4 : Int32) : Option ((Int32 × Int32) ⊕ Int32) :=
  (if n0 ≤ n4 then some (.inr n3)
  else bnd1 (f_X0_daysOfYear n4) (fun r2 =>
  (some (.inl (n3 + r2, n4 + 1)))))
def f_X0_numberOf_L32 (n0 : Int32) (n1 : Int32) (n3 : Int32) (n4 : Int32) : Option ((Int32 × Int32) ⊕ Int32) :=
  (if n1 ≤ n4 then some (.inr n3)
  else bnd1 (f_X0_daysOfMonth n0 n4) (fun r7 =>
  (some (.inl (n3 + r7, n4 + 1)))))
def f_X0_numberOf (v0 : Int32) (v1 : Int32) (v2 : Int32) : Option (Int32) :=
  (bnd1 (loop (fun z => f_X0_numberOf_L9 v0 v1 z.1 z.2) fu (v2 - 1, 2024)) fun m5 =>
  (bnd1 (loop (fun z => f_X0_numberOf_L32 v0 v1 z.1 z.2) fu (m5, 1)) fun m10 =>
  some m10))
set_option maxHeartbeats 4000000 in
set_option maxRecDepth 100000 in
theorem k_X0_numberOf (l : Launch) (hl0 : l.stackTraces = false) (D : va_G) (cI cJ cZ cS : ClassId) (B0 : Nat) (H0 : Heap) (v0 : Int32) (v1 : Int32) (v2 : Int32) (r9 : Int32)  (hf : f_X0_numberOf v0 v1 v2 = some r9) : Met l yX0_numberOf (wz yX0_numberOf cX0_numberOf 5 (some .int)) ({ frames := 1, cells := 0, slots := 0, locals := 21 }) (va_Pc [.int v0, .int v1, .int v2] (rp D cI cJ cZ cS B0 [] H0)) (va_Qi (fun (r2 : Int32) (_ : Unit) => r2 = r9) (fun _ t => t.heap = H0) (fun q => H0.size ≤ q)) 0 0 (fun q => H0.size ≤ q) := by
  refine Met.ofW (cc := cX0_numberOf) (maxL := 5) (ret := (some .int)) (by decide) rfl ?_
  intro p e s m args below meth c s₁ B hml hv
  obtain ⟨rfl, hH, hP, hK, hB0, hE⟩ := hv
  subst hH
  have hx := B.exec
  have hb := B.bytes
  have hr := B.returns
  have hts := atoms_spec (ws := (wz yX0_numberOf cX0_numberOf 5 (some .int))) B.pre
  have hown : s.vm.findClass RX0 = some m.cls := findClass_of_methodNamed B.named
  have hlocks := B.notSynchronized
  have hAB : ∀ q : Nat, s.heap.size ≤ q → B0 ≤ q := fun q h => Nat.le_trans hB0 h
  have hA : ∀ q : Nat, s.heap.size ≤ q → s.heap.size ≤ q := fun _ h => h
  have hS : va_S (fun q => s.heap.size ≤ q) s.heap s.heap [] := va_S.rf
  have hBn := fun (H : Heap) (locs : List Loc) (h : va_S (fun q => s.heap.size ≤ q) s.heap H locs) => Nat.le_trans hB0 h.1
  have hEn := fun (H : Heap) (locs : List Loc) (h : va_S (fun q => s.heap.size ≤ q) s.heap H locs) => gE_now hE h hAB
  have hl := lv_entry ([.int v0, .int v1, .int v2]) (n := 5) (Nat.le_of_ble_eq_true rfl)
  rw [lg_entry_eq]
  generalize (lg_sl ([.int v0, .int v1, .int v2]) ++ List.replicate (5 - (lg_sl ([.int v0, .int v1, .int v2])).length) Slot.unset).toArray = ls at hl ⊢
  have hl : lv_has ls 5 [(0, .int v0), (1, .int v1), (2, .int v2)] := hl
  obtain ⟨H, hHe⟩ : ∃ H : Heap, H = s.heap := ⟨_, rfl⟩
  have hP : va_P D vwCl [] H := by rw [hHe]; exact hP
  have hS : va_S (fun q => s.heap.size ≤ q) s.heap H [] := by rw [hHe]; exact hS
  refine W_heq hHe ?_
  unfold f_X0_numberOf at hf
  refine gen_go (fun WW hWW => ?_)
  have hL9 : ∀ (n : Nat) (n0 : Int32) (n1 : Int32) (n3 : Int32) (n4 : Int32) (e3 : Int32), loop (fun z => f_X0_numberOf_L9 n0 n1 z.1 z.2) n (n3, n4) = some e3 → (∀ (ls : Array Slot), lv_has ls 5 [(0, .int n0), (1, .int n1), (3, .int e3)] → WW (F0 m 29 ls [])) → ∀ (ls : Array Slot), lv_has ls 5 [(0, .int n0), (1, .int n1), (3, .int n3), (4, .int n4)] → WW (F0 m 9 ls []) := by
    intro n
    induction n with
    | zero =>
      intro n0 n1 n3 n4 e3 hlp
      exact absurd hlp (by simp [loop])
    | succ n ih =>
      intro n0 n1 n3 n4 e3 hlp K ls hl
      obtain ⟨x9, hf, hlp⟩ := loop_s hlp
      have hf : f_X0_numberOf_L9 n0 n1 n3 n4 = some x9 := hf
      unfold f_X0_numberOf_L9 at hf
      refine (hWW _).mpr ?_
      refine lv_iload hx hb dX0_numberOf_9 (lv_at hl 3 rfl) ?_
      refine lv_iload_n hx hb dX0_numberOf_11 rfl (lv_at hl 0 rfl) ?_
      refine lv_icmp_ge (tgt := 29) hx hb dX0_numberOf_12 (by decide) (fun h1 => ?_) (fun h1 => ?_)
      · have hf := ipos h1 hf
        obtain rfl := Option.some.inj hf
        cases lpx_r hlp
        exact (hWW _).mp (K ls (lv_sub hl [0, 1, 2] rfl))
      · have hf := ineg h1 hf
        refine lv_iload_n hx hb dX0_numberOf_15 rfl (lv_at hl 2 rfl) ?_
        refine lv_iload hx hb dX0_numberOf_16 (lv_at hl 3 rfl) ?_
        obtain ⟨r2, hc3, hf⟩ := ob1 hf
        refine ro_calli (r := r2) (va_runS (As := [.int n4]) (rest := [.int n3]) ⟨hx, hb, hml, hown, hts⟩ (k_X0_daysOfYear l hl0 D cI cJ cZ cS B0 H n4 r2 hc3) (va_cwS 1 hts (gS tb_618 tb_619 tb_16 tb_620) rfl rfl rfl (by decide +kernel) ⟨Nat.le_of_ble_eq_true rfl, Nat.le_of_ble_eq_true rfl⟩) ⟨rp_blind, rp_pre (hP.sub [] rfl) hK (hBn _ _ hS) (hEn _ _ hS)⟩ rfl rfl hl.1 rfl (lv_room (Nat.le_of_ble_eq_true rfl)) dX0_numberOf_18 ⟨Nat.le_of_ble_eq_true rfl, Nat.le_of_ble_eq_true rfl⟩) ?_
        refine lv_iadd hx hb dX0_numberOf_21 ?_
        refine lv_istore_n (lv' := [(3, .int (n3 + r2)), (0, .int n0), (1, .int n1), (4, .int n4)]) hx hb dX0_numberOf_22 rfl hl (by decide) rfl (fun ls hl => ?_)
        refine lv_iinc (v := (n4 + 1)) (lv' := [(4, .int (n4 + 1)), (3, .int (n3 + r2)), (0, .int n0), (1, .int n1)]) hx hb dX0_numberOf_23 hl (k := 3) rfl rfl (by decide) rfl (fun ls hl => ?_)
        refine lv_goto (tgt := 9) hx hb dX0_numberOf_26 (by decide) ?_
        obtain rfl := Option.some.inj hf
        exact (hWW _).mp (ih _ _ _ _ _ hlp K ls (lv_sub hl [2, 3, 1, 0] rfl))
  have hL32 : ∀ (n : Nat) (n0 : Int32) (n1 : Int32) (n3 : Int32) (n4 : Int32) (e3 : Int32), loop (fun z => f_X0_numberOf_L32 n0 n1 z.1 z.2) n (n3, n4) = some e3 → (∀ (ls : Array Slot), lv_has ls 5 [(3, .int e3)] → WW (F0 m 53 ls [])) → ∀ (ls : Array Slot), lv_has ls 5 [(0, .int n0), (1, .int n1), (3, .int n3), (4, .int n4)] → WW (F0 m 32 ls []) := by
    intro n
    induction n with
    | zero =>
      intro n0 n1 n3 n4 e3 hlp
      exact absurd hlp (by simp [loop])
    | succ n ih =>
      intro n0 n1 n3 n4 e3 hlp K ls hl
      obtain ⟨x9, hf, hlp⟩ := loop_s hlp
      have hf : f_X0_numberOf_L32 n0 n1 n3 n4 = some x9 := hf
      unfold f_X0_numberOf_L32 at hf
      refine (hWW _).mpr ?_
      refine lv_iload hx hb dX0_numberOf_32 (lv_at hl 3 rfl) ?_
      refine lv_iload_n hx hb dX0_numberOf_34 rfl (lv_at hl 1 rfl) ?_
      refine lv_icmp_ge (tgt := 53) hx hb dX0_numberOf_35 (by decide) (fun h6 => ?_) (fun h6 => ?_)
      · have hf := ipos h6 hf
        obtain rfl := Option.some.inj hf
        cases lpx_r hlp
        exact (hWW _).mp (K ls (lv_sub hl [2] rfl))
      · have hf := ineg h6 hf
        refine lv_iload_n hx hb dX0_numberOf_38 rfl (lv_at hl 2 rfl) ?_
        refine lv_iload_n hx hb dX0_numberOf_39 rfl (lv_at hl 0 rfl) ?_
        refine lv_iload hx hb dX0_numberOf_40 (lv_at hl 3 rfl) ?_
        obtain ⟨r7, hc8, hf⟩ := ob1 hf
        refine ro_calli (r := r7) (va_runS (As := [.int n0, .int n4]) (rest := [.int n3]) ⟨hx, hb, hml, hown, hts⟩ (k_X0_daysOfMonth l hl0 D cI cJ cZ cS B0 H n0 n4 r7 hc8) (va_cwS 2 hts (gS tb_621 tb_611 tb_16 tb_612) rfl rfl rfl (by decide +kernel) ⟨Nat.le_of_ble_eq_true rfl, Nat.le_of_ble_eq_true rfl⟩) ⟨rp_blind, rp_pre (hP.sub [] rfl) hK (hBn _ _ hS) (hEn _ _ hS)⟩ rfl rfl hl.1 rfl (lv_room (Nat.le_of_ble_eq_true rfl)) dX0_numberOf_42 ⟨Nat.le_of_ble_eq_true rfl, Nat.le_of_ble_eq_true rfl⟩) ?_
        refine lv_iadd hx hb dX0_numberOf_45 ?_
        refine lv_istore_n (lv' := [(3, .int (n3 + r7)), (0, .int n0), (1, .int n1), (4, .int n4)]) hx hb dX0_numberOf_46 rfl hl (by decide) rfl (fun ls hl => ?_)
        refine lv_iinc (v := (n4 + 1)) (lv' := [(4, .int (n4 + 1)), (3, .int (n3 + r7)), (0, .int n0), (1, .int n1)]) hx hb dX0_numberOf_47 hl (k := 3) rfl rfl (by decide) rfl (fun ls hl => ?_)
        refine lv_goto (tgt := 32) hx hb dX0_numberOf_50 (by decide) ?_
        obtain rfl := Option.some.inj hf
        exact (hWW _).mp (ih _ _ _ _ _ hlp K ls (lv_sub hl [2, 3, 1, 0] rfl))
  refine (hWW _).mpr ?_
  refine lv_iload_n hx hb dX0_numberOf_0 rfl (lv_at hl 2 rfl) ?_
  refine lv_iconst (v := 1) hx hb dX0_numberOf_1 (by decide) ?_
  refine lv_isub hx hb dX0_numberOf_2 ?_
  refine lv_istore_n (lv' := [(3, .int (v2 - 1)), (0, .int v0), (1, .int v1), (2, .int v2)]) hx hb dX0_numberOf_3 rfl hl (by decide) rfl (fun ls hl => ?_)
  refine lv_sipush (v := 2024) hx hb dX0_numberOf_4 (by decide) ?_
  refine lv_istore (lv' := [(4, .int 2024), (3, .int (v2 - 1)), (0, .int v0), (1, .int v1), (2, .int v2)]) hx hb dX0_numberOf_7 hl (by decide) rfl (fun ls hl => ?_)
  obtain ⟨m5, hc4, hf⟩ := ob1 hf
  refine (hWW _).mp (hL9 fu _ _ _ _ _ hc4 (fun ls hl => ?_) ls (lv_sub hl [2, 3, 1, 0] rfl))
  · refine (hWW _).mpr ?_
    refine lv_iconst (v := 1) hx hb dX0_numberOf_29 (by decide) ?_
    refine lv_istore (lv' := [(4, .int 1), (0, .int v0), (1, .int v1), (3, .int m5)]) hx hb dX0_numberOf_30 hl (by decide) rfl (fun ls hl => ?_)
    obtain ⟨m10, hc9, hf⟩ := ob1 hf
    refine (hWW _).mp (hL32 fu _ _ _ _ _ hc9 (fun ls hl => ?_) ls (lv_sub hl [1, 2, 3, 0] rfl))
    · refine (hWW _).mpr ?_
      refine lv_iload_n hx hb dX0_numberOf_53 rfl (lv_at hl 0 rfl) ?_
      cases hf
      exact W.iret hx hb hr (fun t ht hW => ⟨⟨_, (), rfl, rfl, (ht.trans hHe)⟩, hS.F ht⟩) hS.2.2 dX0_numberOf_54
def f_X0_dateAt_L6 (n1 : Int32) (n2 : Int32) : Option ((Int32 × Int32) ⊕ (Int32 × Int32)) :=
  (if 2030 ≤ n2 then some (.inr (n1, n2))
  else bnd1 (f_X0_daysOfYear n2) (fun r2 =>
  ((if n1 < r2 then some (.inr (n1, n2))
  else bnd1 (f_X0_daysOfYear n2) (fun r5 =>
  (some (.inl (n1 - r5, n2 + 1))))))))
def f_X0_dateAt_L36 (n2 : Int32) (n1 : Int32) (n3 : Int32) : Option ((Int32 × Int32) ⊕ (Int32 × Int32)) :=
  (if 12 ≤ n3 then some (.inr (n1, n3))
  else bnd1 (f_X0_daysOfMonth n2 n3) (fun r11 =>
  ((if n1 < r11 then some (.inr (n1, n3))
  else bnd1 (f_X0_daysOfMonth n2 n3) (fun r14 =>
  (some (.inl (n1 - r14, n3 + 1))))))))
def f_X0_dateAt (v0 : Int32) : Option (Int32) :=
  (bnd2 (loop (fun z => f_X0_dateAt_L6 z.1 z.2) fu (v0, 2024)) fun m8 m9 =>
  (bnd2 (loop (fun z => f_X0_dateAt_L36 m9 z.1 z.2) fu (m8, 1)) fun m17 m18 =>
  some ((((m9 * 10000) + (m18 * 100)) + m17) + 1)))
set_option maxHeartbeats 4000000 in
set_option maxRecDepth 100000 in
theorem k_X0_dateAt (l : Launch) (hl0 : l.stackTraces = false) (D : va_G) (cI cJ cZ cS : ClassId) (B0 : Nat) (H0 : Heap) (v0 : Int32) (r9 : Int32)  (hf : f_X0_dateAt v0 = some r9) : Met l yX0_dateAt (wz yX0_dateAt cX0_dateAt 4 (some .int)) ({ frames := 1, cells := 0, slots := 0, locals := 21 }) (va_Pc [.int v0] (rp D cI cJ cZ cS B0 [] H0)) (va_Qi (fun (r2 : Int32) (_ : Unit) => r2 = r9) (fun _ t => t.heap = H0) (fun q => H0.size ≤ q)) 0 0 (fun q => H0.size ≤ q) := by
  refine Met.ofW (cc := cX0_dateAt) (maxL := 4) (ret := (some .int)) (by decide) rfl ?_
  intro p e s m args below meth c s₁ B hml hv
  obtain ⟨rfl, hH, hP, hK, hB0, hE⟩ := hv
  subst hH
  have hx := B.exec
  have hb := B.bytes
  have hr := B.returns
  have hts := atoms_spec (ws := (wz yX0_dateAt cX0_dateAt 4 (some .int))) B.pre
  have hown : s.vm.findClass RX0 = some m.cls := findClass_of_methodNamed B.named
  have hlocks := B.notSynchronized
  have hAB : ∀ q : Nat, s.heap.size ≤ q → B0 ≤ q := fun q h => Nat.le_trans hB0 h
  have hA : ∀ q : Nat, s.heap.size ≤ q → s.heap.size ≤ q := fun _ h => h
  have hS : va_S (fun q => s.heap.size ≤ q) s.heap s.heap [] := va_S.rf
  have hBn := fun (H : Heap) (locs : List Loc) (h : va_S (fun q => s.heap.size ≤ q) s.heap H locs) => Nat.le_trans hB0 h.1
  have hEn := fun (H : Heap) (locs : List Loc) (h : va_S (fun q => s.heap.size ≤ q) s.heap H locs) => gE_now hE h hAB
  have hl := lv_entry ([.int v0]) (n := 4) (Nat.le_of_ble_eq_true rfl)
  rw [lg_entry_eq]
  generalize (lg_sl ([.int v0]) ++ List.replicate (4 - (lg_sl ([.int v0])).length) Slot.unset).toArray = ls at hl ⊢
  have hl : lv_has ls 4 [(0, .int v0)] := hl
  obtain ⟨H, hHe⟩ : ∃ H : Heap, H = s.heap := ⟨_, rfl⟩
  have hP : va_P D vwCl [] H := by rw [hHe]; exact hP
  have hS : va_S (fun q => s.heap.size ≤ q) s.heap H [] := by rw [hHe]; exact hS
  refine W_heq hHe ?_
  unfold f_X0_dateAt at hf
  refine gen_go (fun WW hWW => ?_)
  have hL6 : ∀ (n : Nat) (n1 : Int32) (n2 : Int32) (e1 : Int32) (e2 : Int32), loop (fun z => f_X0_dateAt_L6 z.1 z.2) n (n1, n2) = some (e1, e2) → (∀ (ls : Array Slot), lv_has ls 4 [(1, .int e1), (2, .int e2)] → WW (F0 m 34 ls [])) → ∀ (ls : Array Slot), lv_has ls 4 [(1, .int n1), (2, .int n2)] → WW (F0 m 6 ls []) := by
    intro n
    induction n with
    | zero =>
      intro n1 n2 e1 e2 hlp
      exact absurd hlp (by simp [loop])
    | succ n ih =>
      intro n1 n2 e1 e2 hlp K ls hl
      obtain ⟨x9, hf, hlp⟩ := loop_s hlp
      have hf : f_X0_dateAt_L6 n1 n2 = some x9 := hf
      unfold f_X0_dateAt_L6 at hf
      refine (hWW _).mpr ?_
      refine lv_iload_n hx hb dX0_dateAt_6 rfl (lv_at hl 1 rfl) ?_
      refine lv_sipush (v := 2030) hx hb dX0_dateAt_7 (by decide) ?_
      refine lv_icmp_ge (tgt := 34) hx hb dX0_dateAt_10 (by decide) (fun h1 => ?_) (fun h1 => ?_)
      · have hf := ipos h1 hf
        obtain rfl := Option.some.inj hf
        cases lpx_r hlp
        exact (hWW _).mp (K ls (lv_sub hl [0, 1] rfl))
      · have hf := ineg h1 hf
        refine lv_iload_n hx hb dX0_dateAt_13 rfl (lv_at hl 0 rfl) ?_
        refine lv_iload_n hx hb dX0_dateAt_14 rfl (lv_at hl 1 rfl) ?_
        obtain ⟨r2, hc3, hf⟩ := ob1 hf
        refine ro_calli (r := r2) (va_runS (As := [.int n2]) (rest := [.int n1]) ⟨hx, hb, hml, hown, hts⟩ (k_X0_daysOfYear l hl0 D cI cJ cZ cS B0 H n2 r2 hc3) (va_cwS 1 hts (gS tb_618 tb_619 tb_16 tb_620) rfl rfl rfl (by decide +kernel) ⟨Nat.le_of_ble_eq_true rfl, Nat.le_of_ble_eq_true rfl⟩) ⟨rp_blind, rp_pre (hP.sub [] rfl) hK (hBn _ _ hS) (hEn _ _ hS)⟩ rfl rfl hl.1 rfl (lv_room (Nat.le_of_ble_eq_true rfl)) dX0_dateAt_15 ⟨Nat.le_of_ble_eq_true rfl, Nat.le_of_ble_eq_true rfl⟩) ?_
        refine lv_icmp_lt (tgt := 34) hx hb dX0_dateAt_18 (by decide) (fun h4 => ?_) (fun h4 => ?_)
        · have hf := ipos h4 hf
          obtain rfl := Option.some.inj hf
          cases lpx_r hlp
          exact (hWW _).mp (K ls (lv_sub hl [0, 1] rfl))
        · have hf := ineg h4 hf
          refine lv_iload_n hx hb dX0_dateAt_21 rfl (lv_at hl 0 rfl) ?_
          refine lv_iload_n hx hb dX0_dateAt_22 rfl (lv_at hl 1 rfl) ?_
          obtain ⟨r5, hc6, hf⟩ := ob1 hf
          refine ro_calli (r := r5) (va_runS (As := [.int n2]) (rest := [.int n1]) ⟨hx, hb, hml, hown, hts⟩ (k_X0_daysOfYear l hl0 D cI cJ cZ cS B0 H n2 r5 hc6) (va_cwS 1 hts (gS tb_618 tb_619 tb_16 tb_620) rfl rfl rfl (by decide +kernel) ⟨Nat.le_of_ble_eq_true rfl, Nat.le_of_ble_eq_true rfl⟩) ⟨rp_blind, rp_pre (hP.sub [] rfl) hK (hBn _ _ hS) (hEn _ _ hS)⟩ rfl rfl hl.1 rfl (lv_room (Nat.le_of_ble_eq_true rfl)) dX0_dateAt_23 ⟨Nat.le_of_ble_eq_true rfl, Nat.le_of_ble_eq_true rfl⟩) ?_
          refine lv_isub hx hb dX0_dateAt_26 ?_
          refine lv_istore_n (lv' := [(1, .int (n1 - r5)), (2, .int n2)]) hx hb dX0_dateAt_27 rfl hl (by decide) rfl (fun ls hl => ?_)
          refine lv_iinc (v := (n2 + 1)) (lv' := [(2, .int (n2 + 1)), (1, .int (n1 - r5))]) hx hb dX0_dateAt_28 hl (k := 1) rfl rfl (by decide) rfl (fun ls hl => ?_)
          refine lv_goto (tgt := 6) hx hb dX0_dateAt_31 (by decide) ?_
          obtain rfl := Option.some.inj hf
          exact (hWW _).mp (ih  _ _ _ _ hlp K ls (lv_sub hl [1, 0] rfl))
  have hL36 : ∀ (n : Nat) (n2 : Int32) (n1 : Int32) (n3 : Int32) (e1 : Int32) (e3 : Int32), loop (fun z => f_X0_dateAt_L36 n2 z.1 z.2) n (n1, n3) = some (e1, e3) → (∀ (ls : Array Slot), lv_has ls 4 [(1, .int e1), (2, .int n2), (3, .int e3)] → WW (F0 m 65 ls [])) → ∀ (ls : Array Slot), lv_has ls 4 [(1, .int n1), (2, .int n2), (3, .int n3)] → WW (F0 m 36 ls []) := by
    intro n
    induction n with
    | zero =>
      intro n2 n1 n3 e1 e3 hlp
      exact absurd hlp (by simp [loop])
    | succ n ih =>
      intro n2 n1 n3 e1 e3 hlp K ls hl
      obtain ⟨x9, hf, hlp⟩ := loop_s hlp
      have hf : f_X0_dateAt_L36 n2 n1 n3 = some x9 := hf
      unfold f_X0_dateAt_L36 at hf
      refine (hWW _).mpr ?_
      refine lv_iload_n hx hb dX0_dateAt_36 rfl (lv_at hl 2 rfl) ?_
      refine lv_bipush (v := 12) hx hb dX0_dateAt_37 (by decide) ?_
      refine lv_icmp_ge (tgt := 65) hx hb dX0_dateAt_39 (by decide) (fun h10 => ?_) (fun h10 => ?_)
      · have hf := ipos h10 hf
        obtain rfl := Option.some.inj hf
        cases lpx_r hlp
        exact (hWW _).mp (K ls (lv_sub hl [0, 1, 2] rfl))
      · have hf := ineg h10 hf
        refine lv_iload_n hx hb dX0_dateAt_42 rfl (lv_at hl 0 rfl) ?_
        refine lv_iload_n hx hb dX0_dateAt_43 rfl (lv_at hl 1 rfl) ?_
        refine lv_iload_n hx hb dX0_dateAt_44 rfl (lv_at hl 2 rfl) ?_
        obtain ⟨r11, hc12, hf⟩ := ob1 hf
        refine ro_calli (r := r11) (va_runS (As := [.int n2, .int n3]) (rest := [.int n1]) ⟨hx, hb, hml, hown, hts⟩ (k_X0_daysOfMonth l hl0 D cI cJ cZ cS B0 H n2 n3 r11 hc12) (va_cwS 2 hts (gS tb_621 tb_611 tb_16 tb_612) rfl rfl rfl (by decide +kernel) ⟨Nat.le_of_ble_eq_true rfl, Nat.le_of_ble_eq_true rfl⟩) ⟨rp_blind, rp_pre (hP.sub [] rfl) hK (hBn _ _ hS) (hEn _ _ hS)⟩ rfl rfl hl.1 rfl (lv_room (Nat.le_of_ble_eq_true rfl)) dX0_dateAt_45 ⟨Nat.le_of_ble_eq_true rfl, Nat.le_of_ble_eq_true rfl⟩) ?_
        refine lv_icmp_lt (tgt := 65) hx hb dX0_dateAt_48 (by decide) (fun h13 => ?_) (fun h13 => ?_)
        · have hf := ipos h13 hf
          obtain rfl := Option.some.inj hf
          cases lpx_r hlp
          exact (hWW _).mp (K ls (lv_sub hl [0, 1, 2] rfl))
        · have hf := ineg h13 hf
          refine lv_iload_n hx hb dX0_dateAt_51 rfl (lv_at hl 0 rfl) ?_
          refine lv_iload_n hx hb dX0_dateAt_52 rfl (lv_at hl 1 rfl) ?_
          refine lv_iload_n hx hb dX0_dateAt_53 rfl (lv_at hl 2 rfl) ?_
          obtain ⟨r14, hc15, hf⟩ := ob1 hf
          refine ro_calli (r := r14) (va_runS (As := [.int n2, .int n3]) (rest := [.int n1]) ⟨hx, hb, hml, hown, hts⟩ (k_X0_daysOfMonth l hl0 D cI cJ cZ cS B0 H n2 n3 r14 hc15) (va_cwS 2 hts (gS tb_621 tb_611 tb_16 tb_612) rfl rfl rfl (by decide +kernel) ⟨Nat.le_of_ble_eq_true rfl, Nat.le_of_ble_eq_true rfl⟩) ⟨rp_blind, rp_pre (hP.sub [] rfl) hK (hBn _ _ hS) (hEn _ _ hS)⟩ rfl rfl hl.1 rfl (lv_room (Nat.le_of_ble_eq_true rfl)) dX0_dateAt_54 ⟨Nat.le_of_ble_eq_true rfl, Nat.le_of_ble_eq_true rfl⟩) ?_
          refine lv_isub hx hb dX0_dateAt_57 ?_
          refine lv_istore_n (lv' := [(1, .int (n1 - r14)), (2, .int n2), (3, .int n3)]) hx hb dX0_dateAt_58 rfl hl (by decide) rfl (fun ls hl => ?_)
          refine lv_iinc (v := (n3 + 1)) (lv' := [(3, .int (n3 + 1)), (1, .int (n1 - r14)), (2, .int n2)]) hx hb dX0_dateAt_59 hl (k := 2) rfl rfl (by decide) rfl (fun ls hl => ?_)
          refine lv_goto (tgt := 36) hx hb dX0_dateAt_62 (by decide) ?_
          obtain rfl := Option.some.inj hf
          exact (hWW _).mp (ih _ _ _ _ _ hlp K ls (lv_sub hl [1, 2, 0] rfl))
  refine (hWW _).mpr ?_
  refine lv_iload_n hx hb dX0_dateAt_0 rfl (lv_at hl 0 rfl) ?_
  refine lv_istore_n (lv' := [(1, .int v0), (0, .int v0)]) hx hb dX0_dateAt_1 rfl hl (by decide) rfl (fun ls hl => ?_)
  refine lv_sipush (v := 2024) hx hb dX0_dateAt_2 (by decide) ?_
  refine lv_istore_n (lv' := [(2, .int 2024), (1, .int v0), (0, .int v0)]) hx hb dX0_dateAt_5 rfl hl (by decide) rfl (fun ls hl => ?_)
  obtain ⟨m8, m9, hc7, hf⟩ := ob2 hf
  refine (hWW _).mp (hL6 fu _ _ _ _ hc7 (fun ls hl => ?_) ls (lv_sub hl [1, 0] rfl))
  · refine (hWW _).mpr ?_
    refine lv_iconst (v := 1) hx hb dX0_dateAt_34 (by decide) ?_
    refine lv_istore_n (lv' := [(3, .int 1), (1, .int m8), (2, .int m9)]) hx hb dX0_dateAt_35 rfl hl (by decide) rfl (fun ls hl => ?_)
    obtain ⟨m17, m18, hc16, hf⟩ := ob2 hf
    refine (hWW _).mp (hL36 fu _ _ _ _ _ hc16 (fun ls hl => ?_) ls (lv_sub hl [1, 2, 0] rfl))
    · refine (hWW _).mpr ?_
      refine lv_iload_n hx hb dX0_dateAt_65 rfl (lv_at hl 1 rfl) ?_
      refine lv_sipush (v := 10000) hx hb dX0_dateAt_66 (by decide) ?_
      refine lv_imul hx hb dX0_dateAt_69 ?_
      refine lv_iload_n hx hb dX0_dateAt_70 rfl (lv_at hl 2 rfl) ?_
      refine lv_bipush (v := 100) hx hb dX0_dateAt_71 (by decide) ?_
      refine lv_imul hx hb dX0_dateAt_73 ?_
      refine lv_iadd hx hb dX0_dateAt_74 ?_
      refine lv_iload_n hx hb dX0_dateAt_75 rfl (lv_at hl 0 rfl) ?_
      refine lv_iadd hx hb dX0_dateAt_76 ?_
      refine lv_iconst (v := 1) hx hb dX0_dateAt_77 (by decide) ?_
      refine lv_iadd hx hb dX0_dateAt_78 ?_
      cases hf
      exact W.iret hx hb hr (fun t ht hW => ⟨⟨_, (), rfl, rfl, (ht.trans hHe)⟩, hS.F ht⟩) hS.2.2 dX0_dateAt_79
