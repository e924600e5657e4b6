def f_X4_cell (v0 : Int32) (v1 : Int32) : Option (Int32) :=
  some (((if 0 < (if 5 < v0 then 5 else v0) then (if 5 < v0 then 5 else v0) else 0) * 61) + (if 0 < (if 60 < (v1 - (-40)) then 60 else (v1 - (-40))) then (if 60 < (v1 - (-40)) then 60 else (v1 - (-40))) else 0))
set_option maxHeartbeats 4000000 in
set_option maxRecDepth 100000 in
theorem k_X4_cell (l : Launch) (hl0 : l.stackTraces = false) (D : va_G) (cI cJ cZ cS : ClassId) (B0 : Nat) (H0 : Heap) (v0 : Int32) (v1 : Int32) (r9 : Int32)  (hf : f_X4_cell v0 v1 = some r9) : Met l yX4_cell (wz yX4_cell cX4_cell 3 (some .int)) ({ frames := 1, cells := 0, slots := 0, locals := 40 }) (va_Pc [.int v0, .int v1] (rp D cI cJ cZ cS B0 [] H0)) (va_Qi (fun (r2 : Int32) (_ : Unit) => r2 = r9) (fun _ t => t.heap = H0) (fun q => H0.size ≤ q)) 0 0 (fun q => H0.size ≤ q) := by
  refine Met.ofW (cc := cX4_cell) (maxL := 3) (ret := (some .int)) (by decide) rfl ?_
  intro p e s m args below meth c s₁ B hml hv
  obtain ⟨rfl, hH, hP, hK, hB0, hE⟩ := hv
  subst hH
  have hx := B.exec
  have hb := B.bytes
  have hr := B.returns
  have hts := atoms_spec (ws := (wz yX4_cell cX4_cell 3 (some .int))) B.pre
  have hown : s.vm.findClass RX4 = some m.cls := findClass_of_methodNamed B.named
  have hlocks := B.notSynchronized
  have hAB : ∀ q : Nat, s.heap.size ≤ q → B0 ≤ q := fun q h => Nat.le_trans hB0 h
  have hA : ∀ q : Nat, s.heap.size ≤ q → s.heap.size ≤ q := fun _ h => h
  have hS : va_S (fun q => s.heap.size ≤ q) s.heap s.heap [] := va_S.rf
  have hBn := fun (H : Heap) (locs : List Loc) (h : va_S (fun q => s.heap.size ≤ q) s.heap H locs) => Nat.le_trans hB0 h.1
  have hEn := fun (H : Heap) (locs : List Loc) (h : va_S (fun q => s.heap.size ≤ q) s.heap H locs) => gE_now hE h hAB
  have hl := lv_entry ([.int v0, .int v1]) (n := 3) (Nat.le_of_ble_eq_true rfl)
  rw [lg_entry_eq]
  generalize (lg_sl ([.int v0, .int v1]) ++ List.replicate (3 - (lg_sl ([.int v0, .int v1])).length) Slot.unset).toArray = ls at hl ⊢
  have hl : lv_has ls 3 [(0, .int v0), (1, .int v1)] := hl
  obtain ⟨H, hHe⟩ : ∃ H : Heap, H = s.heap := ⟨_, rfl⟩
  have hP : va_P D vwCl [] H := by rw [hHe]; exact hP
  have hS : va_S (fun q => s.heap.size ≤ q) s.heap H [] := by rw [hHe]; exact hS
  refine W_heq hHe ?_
  unfold f_X4_cell at hf
  refine lv_iconst (v := 0) hx hb dX4_cell_0 (by decide) ?_
  refine lv_iload_n hx hb dX4_cell_1 rfl (lv_at hl 1 rfl) ?_
  refine lv_bipush (v := (-40)) hx hb dX4_cell_2 (by decide) ?_
  refine lv_isub hx hb dX4_cell_4 ?_
  refine lv_bipush (v := 60) hx hb dX4_cell_5 (by decide) ?_
  refine va_mmin hx hb (hml.trans hl.1.symm) hown (hts _ (mb tb_943)) (hts _ (mb tb_257)) (hts _ (mb tb_8)) (hts _ (mb wm_min)) (Nat.le_of_ble_eq_true rfl) (Nat.le_of_ble_eq_true rfl) (Nat.zero_le _) (Nat.zero_le _) dX4_cell_7 ?_
  refine va_mmax hx hb (hml.trans hl.1.symm) hown (hts _ (mb tb_944)) (hts _ (mb tb_685)) (hts _ (mb tb_8)) (hts _ (mb wm_max)) (Nat.le_of_ble_eq_true rfl) (Nat.le_of_ble_eq_true rfl) (Nat.zero_le _) (Nat.zero_le _) dX4_cell_10 ?_
  refine lv_istore_n (lv' := [(2, .int (if 0 < (if 60 < (v1 - (-40)) then 60 else (v1 - (-40))) then (if 60 < (v1 - (-40)) then 60 else (v1 - (-40))) else 0)), (0, .int v0), (1, .int v1)]) hx hb dX4_cell_13 rfl hl (by decide) rfl (fun ls hl => ?_)
  refine lv_iconst (v := 0) hx hb dX4_cell_14 (by decide) ?_
  refine lv_iload_n hx hb dX4_cell_15 rfl (lv_at hl 1 rfl) ?_
  refine lv_iconst (v := 5) hx hb dX4_cell_16 (by decide) ?_
  refine va_mmin hx hb (hml.trans hl.1.symm) hown (hts _ (mb tb_943)) (hts _ (mb tb_257)) (hts _ (mb tb_8)) (hts _ (mb wm_min)) (Nat.le_of_ble_eq_true rfl) (Nat.le_of_ble_eq_true rfl) (Nat.zero_le _) (Nat.zero_le _) dX4_cell_17 ?_
  refine va_mmax hx hb (hml.trans hl.1.symm) hown (hts _ (mb tb_944)) (hts _ (mb tb_685)) (hts _ (mb tb_8)) (hts _ (mb wm_max)) (Nat.le_of_ble_eq_true rfl) (Nat.le_of_ble_eq_true rfl) (Nat.zero_le _) (Nat.zero_le _) dX4_cell_20 ?_
  refine lv_bipush (v := 61) hx hb dX4_cell_23 (by decide) ?_
  refine lv_imul hx hb dX4_cell_25 ?_
  refine lv_iload_n hx hb dX4_cell_26 rfl (lv_at hl 0 rfl) ?_
  refine lv_iadd hx hb dX4_cell_27 ?_
  cases hf
  exact W.iret hx hb hr (fun t ht hW => ⟨⟨_, (), rfl, rfl, (ht.trans hHe)⟩, hS.F ht⟩) hS.2.2 dX4_cell_28
def f_X4_takeTerms_L4_J40 (n3 : Int32) (t0 : Int32) (c_terms : Nat → Int32) (cp1 : Nat → Int32) : Option ((Int32 × Int32 × (Nat → Int32)) ⊕ (Int32 × (Nat → Int32))) :=
  gd n3 10 (gd n3 10 (some (.inl (t0, n3 + 1, upd c_terms n3.toNatClampNeg (cp1 n3.toNatClampNeg)))))
def f_X4_takeTerms_L4_J35 (n3 : Int32) (c_terms : Nat → Int32) (cp1 : Nat → Int32) : Option ((Int32 × Int32 × (Nat → Int32)) ⊕ (Int32 × (Nat → Int32))) :=
  f_X4_takeTerms_L4_J40 n3 1 c_terms cp1
def f_X4_takeTerms_L4 (cp1 : Nat → Int32) (n2 : Int32) (n3 : Int32) (c_terms : Nat → Int32) : Option ((Int32 × Int32 × (Nat → Int32)) ⊕ (Int32 × (Nat → Int32))) :=
  (if 10 ≤ n3 then some (.inr (n2, c_terms))
  else (if 10 ≤ n3 then some (.inr (n2, c_terms))
  else (if n2 = 0 then gd n3 10 (gd n3 10 ((if (c_terms n3.toNatClampNeg) = (cp1 n3.toNatClampNeg) then f_X4_takeTerms_L4_J40 n3 0 c_terms cp1
  else f_X4_takeTerms_L4_J35 n3 c_terms cp1)))
  else f_X4_takeTerms_L4_J35 n3 c_terms cp1)))
def f_X4_takeTerms (c_terms : Nat → Int32) (cp1 : Nat → Int32) : Option (Int32 × (Nat → Int32)) :=
  (bnd2 (loop (fun z => f_X4_takeTerms_L4 cp1 z.1 z.2.1 z.2.2) fu (0, 0, c_terms)) fun m10 c11 =>
  gb m10 (some (m10, c11)))
set_option maxHeartbeats 4000000 in
set_option maxRecDepth 100000 in
theorem k_X4_takeTerms (l : Launch) (hl0 : l.stackTraces = false) (D : va_G) (cI cJ cZ cS : ClassId) (B0 : Nat) (sz : Nat) (a0 a_terms a_low a_high a_bottom a_cost a_act ap1 : Nat) (c_terms : Nat → Int32) (cp1 : Nat → Int32) (r9 : Int32) (oc_terms : Nat → Int32)  (hf : f_X4_takeTerms c_terms cp1 = some (r9, oc_terms)) : Met l yX4_takeTerms (wz yX4_takeTerms cX4_takeTerms 4 (some .boolean)) ({ frames := 0, cells := 0, slots := 0, locals := 0 }) (va_Pc [.ref a0, .ref ap1] (wp D cI cJ cZ cS B0 [oX4 a0 a_terms a_low a_high a_bottom a_cost a_act, rI cI a_terms 10 c_terms, rI cI ap1 10 cp1] sz)) (va_Qi (fun (r2 : Int32) (_ : Unit) => r2 = r9) (fun _ t => va_P D vwCl [oX4 a0 a_terms a_low a_high a_bottom a_cost a_act, rI cI a_terms 10 oc_terms, rI cI ap1 10 cp1] t.heap) (va_A [oX4 a0 a_terms a_low a_high a_bottom a_cost a_act, rI cI a_terms 10 c_terms, rI cI ap1 10 cp1] sz)) 0 0 (va_A [oX4 a0 a_terms a_low a_high a_bottom a_cost a_act, rI cI a_terms 10 c_terms, rI cI ap1 10 cp1] sz) := by
  refine Met.ofW (cc := cX4_takeTerms) (maxL := 4) (ret := (some .boolean)) (by decide) rfl ?_
  intro p e s m args below meth c s₁ B hml hv
  obtain ⟨rfl, hsz, hP, hK, hD0, hB0, hE⟩ := hv
  subst hsz
  have hx := B.exec
  have hb := B.bytes
  have hr := B.returns
  have hts := atoms_spec (ws := (wz yX4_takeTerms cX4_takeTerms 4 (some .boolean))) B.pre
  have hown : s.vm.findClass RX4 = some m.cls := findClass_of_methodNamed B.named
  have hlocks := B.notSynchronized
  have hD := hD0.self (sz := s.heap.size)
  have hAB : ∀ q : Nat, va_A [oX4 a0 a_terms a_low a_high a_bottom a_cost a_act, rI cI a_terms 10 c_terms, rI cI ap1 10 cp1] s.heap.size q → B0 ≤ q := va_A_B hD0 hB0
  generalize hAe : va_A [oX4 a0 a_terms a_low a_high a_bottom a_cost a_act, rI cI a_terms 10 c_terms, rI cI ap1 10 cp1] s.heap.size = A at hD hAB ⊢
  have hA : ∀ q : Nat, s.heap.size ≤ q → A q := fun q h => by rw [← hAe]; exact Or.inr h
  have hFa := hA
  have hS : va_S A s.heap s.heap [] := va_S.rf
  have hBn := fun (H : Heap) (locs : List Loc) (h : va_S A s.heap H locs) => Nat.le_trans hB0 h.1
  have hEn := fun (H : Heap) (locs : List Loc) (h : va_S A s.heap H locs) => gE_now hE h hAB
  have hl := lv_entry ([.ref a0, .ref ap1]) (n := 4) (Nat.le_of_ble_eq_true rfl)
  rw [lg_entry_eq]
  generalize (lg_sl ([.ref a0, .ref ap1]) ++ List.replicate (4 - (lg_sl ([.ref a0, .ref ap1])).length) Slot.unset).toArray = ls at hl ⊢
  have hl : lv_has ls 4 [(0, .ref a0), (1, .ref ap1)] := hl
  obtain ⟨H, hHe⟩ : ∃ H : Heap, H = s.heap := ⟨_, rfl⟩
  have hP : va_P D vwCl [oX4 a0 a_terms a_low a_high a_bottom a_cost a_act, rI cI a_terms 10 c_terms, rI cI ap1 10 cp1] H := by rw [hHe]; exact hP
  have hS : va_S A s.heap H [] := by rw [hHe]; exact hS
  refine W_heq hHe ?_
  unfold f_X4_takeTerms at hf
  refine gen_goW (fun WW hWW => ?_)
  have hL4 : ∀ (n : Nat) (n2 : Int32) (n3 : Int32) (c_terms : Nat → Int32) (e2 : Int32) (e_c_terms : Nat → Int32), loop (fun z => f_X4_takeTerms_L4 cp1 z.1 z.2.1 z.2.2) n (n2, n3, c_terms) = some (e2, e_c_terms) → (∀ (H : Heap) (locs : List Loc) (ls : Array Slot), va_P D vwCl [oX4 a0 a_terms a_low a_high a_bottom a_cost a_act, rI cI a_terms 10 e_c_terms, rI cI ap1 10 cp1] H → va_D A [oX4 a0 a_terms a_low a_high a_bottom a_cost a_act, rI cI a_terms 10 e_c_terms, rI cI ap1 10 cp1] → va_S A s.heap H locs → lv_has ls 4 [(2, .int e2)] → WW H locs 0 0 (F0 m 56 ls [])) → ∀ (H : Heap) (locs : List Loc) (ls : Array Slot), va_P D vwCl [oX4 a0 a_terms a_low a_high a_bottom a_cost a_act, rI cI a_terms 10 c_terms, rI cI ap1 10 cp1] H → va_D A [oX4 a0 a_terms a_low a_high a_bottom a_cost a_act, rI cI a_terms 10 c_terms, rI cI ap1 10 cp1] → va_S A s.heap H locs → lv_has ls 4 [(0, .ref a0), (1, .ref ap1), (2, .int n2), (3, .int n3)] → WW H locs 0 0 (F0 m 4 ls []) := by
    intro n
    induction n with
    | zero =>
      intro n2 n3 c_terms e2 e_c_terms hlp
      exact absurd hlp (by simp [loop])
    | succ n ih =>
      intro n2 n3 c_terms e2 e_c_terms hlp K H locs ls hP hD hS hl
      obtain ⟨x9, hf, hlp⟩ := loop_s hlp
      have hf : f_X4_takeTerms_L4 cp1 n2 n3 c_terms = some x9 := hf
      unfold f_X4_takeTerms_L4 at hf
      have hJ40 : ∀ (n3 : Int32) (t0 : Int32) (c_terms : Nat → Int32), f_X4_takeTerms_L4_J40 n3 t0 c_terms cp1 = some x9 → ∀ (H : Heap) (locs : List Loc) (ls : Array Slot), va_P D vwCl [oX4 a0 a_terms a_low a_high a_bottom a_cost a_act, rI cI a_terms 10 c_terms, rI cI ap1 10 cp1] H → va_D A [oX4 a0 a_terms a_low a_high a_bottom a_cost a_act, rI cI a_terms 10 c_terms, rI cI ap1 10 cp1] → va_S A s.heap H locs → lv_has ls 4 [(0, .ref a0), (1, .ref ap1), (3, .int n3)] → WW H locs 0 0 (F0 m 40 ls [.int t0]) := by
        intro n3 t0 c_terms hf H locs ls hP hD hS hl
        unfold f_X4_takeTerms_L4_J40 at hf
        refine (hWW _ _ _ _ _).mpr ?_
        refine lv_istore_n (lv' := [(2, .int t0), (0, .ref a0), (1, .ref ap1), (3, .int n3)]) hx hb dX4_takeTerms_40 rfl hl (by decide) rfl (fun ls hl => ?_)
        refine lv_aload_n hx hb dX4_takeTerms_41 rfl (lv_at hl 1 rfl) ?_
        refine va_get (D := D) (ci := 3) (v := .ref a_terms) (C := RX4) (T := TX4) (N := 6) hx hb hts (fun w h => mb (iX4 w h)) hown hK hP 0 rfl rfl 0 (by decide) (hts _ (mb tb_205)) (fun _ h9 => h9) rfl dX4_takeTerms_42 ?_
        refine lv_iload_n hx hb dX4_takeTerms_45 rfl (lv_at hl 3 rfl) ?_
        refine lv_aload_n hx hb dX4_takeTerms_46 rfl (lv_at hl 2 rfl) ?_
        refine lv_iload_n hx hb dX4_takeTerms_47 rfl (lv_at hl 3 rfl) ?_
        obtain ⟨h4, hf⟩ := ob_d hf
        refine va_iald hx hb hK hP 2 0 rfl rfl h4 dX4_takeTerms_48 ?_
        obtain ⟨h5, hf⟩ := ob_d hf
        refine va_iast hx hb hK hP hD hS 1 0 rfl rfl h5 dX4_takeTerms_49 (fun H locs hP hD hS => ?_)
        have hP : va_P D vwCl [oX4 a0 a_terms a_low a_high a_bottom a_cost a_act, rI cI a_terms 10 (upd c_terms n3.toNatClampNeg (cp1 n3.toNatClampNeg)), rI cI ap1 10 cp1] H := hP
        have hD : va_D A [oX4 a0 a_terms a_low a_high a_bottom a_cost a_act, rI cI a_terms 10 (upd c_terms n3.toNatClampNeg (cp1 n3.toNatClampNeg)), rI cI ap1 10 cp1] := hD
        refine lv_iinc (v := (n3 + 1)) (lv' := [(3, .int (n3 + 1)), (2, .int t0), (0, .ref a0), (1, .ref ap1)]) hx hb dX4_takeTerms_50 hl (k := 3) rfl rfl (by decide) rfl (fun ls hl => ?_)
        refine lv_goto (tgt := 4) hx hb dX4_takeTerms_53 (by decide) ?_
        obtain rfl := Option.some.inj hf
        exact (hWW _ _ _ _ _).mp (ih  _ _ _ _ _ hlp K _ _ ls hP hD hS (lv_sub hl [2, 3, 1, 0] rfl))
      have hJ35 : ∀ (n3 : Int32) (c_terms : Nat → Int32), f_X4_takeTerms_L4_J35 n3 c_terms cp1 = some x9 → ∀ (H : Heap) (locs : List Loc) (ls : Array Slot), va_P D vwCl [oX4 a0 a_terms a_low a_high a_bottom a_cost a_act, rI cI a_terms 10 c_terms, rI cI ap1 10 cp1] H → va_D A [oX4 a0 a_terms a_low a_high a_bottom a_cost a_act, rI cI a_terms 10 c_terms, rI cI ap1 10 cp1] → va_S A s.heap H locs → lv_has ls 4 [(0, .ref a0), (1, .ref ap1), (3, .int n3)] → WW H locs 0 0 (F0 m 35 ls []) := by
        intro n3 c_terms hf H locs ls hP hD hS hl
        unfold f_X4_takeTerms_L4_J35 at hf
        refine (hWW _ _ _ _ _).mpr ?_
        refine lv_iconst (v := 1) hx hb dX4_takeTerms_35 (by decide) ?_
        refine lv_goto (tgt := 40) hx hb dX4_takeTerms_36 (by decide) ?_
        exact (hWW _ _ _ _ _).mp (hJ40 _ _ _ hf _ _ ls hP hD hS (lv_sub hl [0, 1, 2] rfl))
      refine (hWW _ _ _ _ _).mpr ?_
      refine lv_iload_n hx hb dX4_takeTerms_4 rfl (lv_at hl 3 rfl) ?_
      refine lv_aload_n hx hb dX4_takeTerms_5 rfl (lv_at hl 0 rfl) ?_
      refine va_get (D := D) (ci := 3) (v := .ref a_terms) (C := RX4) (T := TX4) (N := 6) hx hb hts (fun w h => mb (iX4 w h)) hown hK hP 0 rfl rfl 0 (by decide) (hts _ (mb tb_205)) (fun _ h9 => h9) rfl dX4_takeTerms_6 ?_
      refine va_alen (v := 10) hx hb hK hP 1 0 rfl rfl rfl dX4_takeTerms_9 ?_
      refine lv_icmp_ge (tgt := 56) hx hb dX4_takeTerms_10 (by decide) (fun h1 => ?_) (fun h1 => ?_)
      · have hf := ipos h1 hf
        obtain rfl := Option.some.inj hf
        cases lpx_r hlp
        exact (hWW _ _ _ _ _).mp (K _ _ ls hP hD hS (lv_sub hl [2] rfl))
      · have hf := ineg h1 hf
        refine lv_iload_n hx hb dX4_takeTerms_13 rfl (lv_at hl 3 rfl) ?_
        refine lv_aload_n hx hb dX4_takeTerms_14 rfl (lv_at hl 1 rfl) ?_
        refine va_alen (v := 10) hx hb hK hP 2 0 rfl rfl rfl dX4_takeTerms_15 ?_
        refine lv_icmp_ge (tgt := 56) hx hb dX4_takeTerms_16 (by decide) (fun h2 => ?_) (fun h2 => ?_)
        · have hf := ipos h2 hf
          obtain rfl := Option.some.inj hf
          cases lpx_r hlp
          exact (hWW _ _ _ _ _).mp (K _ _ ls hP hD hS (lv_sub hl [2] rfl))
        · have hf := ineg h2 hf
          refine lv_iload_n hx hb dX4_takeTerms_19 rfl (lv_at hl 2 rfl) ?_
          refine lv_if_ne (tgt := 35) hx hb dX4_takeTerms_20 (by decide) (fun h3 => ?_) (fun h3 => ?_)
          · have hf := ineg h3 hf
            exact (hWW _ _ _ _ _).mp (hJ35 _ _ hf _ _ ls hP hD hS (lv_sub hl [0, 1, 3] rfl))
          · have hf := ipos h3 hf
            refine lv_aload_n hx hb dX4_takeTerms_23 rfl (lv_at hl 0 rfl) ?_
            refine va_get (D := D) (ci := 3) (v := .ref a_terms) (C := RX4) (T := TX4) (N := 6) hx hb hts (fun w h => mb (iX4 w h)) hown hK hP 0 rfl rfl 0 (by decide) (hts _ (mb tb_205)) (fun _ h9 => h9) rfl dX4_takeTerms_24 ?_
            refine lv_iload_n hx hb dX4_takeTerms_27 rfl (lv_at hl 3 rfl) ?_
            obtain ⟨h6, hf⟩ := ob_d hf
            refine va_iald hx hb hK hP 1 0 rfl rfl h6 dX4_takeTerms_28 ?_
            refine lv_aload_n hx hb dX4_takeTerms_29 rfl (lv_at hl 1 rfl) ?_
            refine lv_iload_n hx hb dX4_takeTerms_30 rfl (lv_at hl 3 rfl) ?_
            obtain ⟨h7, hf⟩ := ob_d hf
            refine va_iald hx hb hK hP 2 0 rfl rfl h7 dX4_takeTerms_31 ?_
            refine lv_icmp_eq (tgt := 39) hx hb dX4_takeTerms_32 (by decide) (fun h8 => ?_) (fun h8 => ?_)
            · have hf := ipos h8 hf
              refine lv_iconst (v := 0) hx hb dX4_takeTerms_39 (by decide) ?_
              exact (hWW _ _ _ _ _).mp (hJ40 _ _ _ hf _ _ ls hP hD hS (lv_sub hl [0, 1, 3] rfl))
            · have hf := ineg h8 hf
              exact (hWW _ _ _ _ _).mp (hJ35 _ _ hf _ _ ls hP hD hS (lv_sub hl [0, 1, 3] rfl))
  refine (hWW _ _ _ _ _).mpr ?_
  refine lv_iconst (v := 0) hx hb dX4_takeTerms_0 (by decide) ?_
  refine lv_istore_n (lv' := [(2, .int 0), (0, .ref a0), (1, .ref ap1)]) hx hb dX4_takeTerms_1 rfl hl (by decide) rfl (fun ls hl => ?_)
  refine lv_iconst (v := 0) hx hb dX4_takeTerms_2 (by decide) ?_
  refine lv_istore_n (lv' := [(3, .int 0), (2, .int 0), (0, .ref a0), (1, .ref ap1)]) hx hb dX4_takeTerms_3 rfl hl (by decide) rfl (fun ls hl => ?_)
  obtain ⟨m10, c11, hc9, hf⟩ := ob2 hf
  refine (hWW _ _ _ _ _).mp (hL4 fu _ _ _ _ _ hc9 (fun H locs ls hP hD hS hl => ?_) _ _ ls hP hD hS (lv_sub hl [2, 3, 1, 0] rfl))
  · refine (hWW _ _ _ _ _).mpr ?_
    refine lv_iload_n hx hb dX4_takeTerms_56 rfl (lv_at hl 0 rfl) ?_
    obtain ⟨h12, hf⟩ := ob_b hf
    cases hf
    refine W.widen (k := 0) (n := 0) (Nat.le_of_ble_eq_true rfl) (Nat.le_of_ble_eq_true rfl) ?_
    exact W.zret hx hb hr (nar_b h12) (fun t ht hW => ⟨⟨_, (), rfl, rfl, (by show va_P D vwCl _ t.heap; rw [ht]; exact hP)⟩, hS.F ht⟩) hS.2.2 dX4_takeTerms_57
def f_X4_stayCost_L5_J48 (n1 : Int32) (n2 : Int32) (n3 : Int64) (n5 : Int32) (n6 : Int32) (t0 : Int64) (c_terms : Nat → Int32) (c_bottom : Nat → Int64) (c_cost : Nat → Int64) : Option ((Int64 × Int32) ⊕ Int64) :=
  gd n5 10 (gd (n1 - 1) 6 (bnd1 (f_X4_cell (n1 - 1) n6) (fun r6 =>
  (gd r6 366 (some (.inl (n3 + (((c_terms n5.toNatClampNeg).toInt64) * ((t0 * (c_bottom (n1 - 1).toNatClampNeg)) + (c_cost r6.toNatClampNeg))), n5 + 1)))))))
def f_X4_stayCost_L5 (n1 : Int32) (n2 : Int32) (c_terms : Nat → Int32) (c_bottom : Nat → Int64) (c_cost : Nat → Int64) (n3 : Int64) (n5 : Int32) : Option ((Int64 × Int32) ⊕ Int64) :=
  (if 5 ≤ n5 then some (.inr n3)
  else (if (n2 - n5) ≤ 0 then gd 8 10 (f_X4_stayCost_L5_J48 n1 n2 n3 n5 (n2 - n5) (((c_terms (8 : Int32).toNatClampNeg) * (-(n2 - n5))).toInt64) c_terms c_bottom c_cost)
  else gd 7 10 (f_X4_stayCost_L5_J48 n1 n2 n3 n5 (n2 - n5) (((c_terms (7 : Int32).toNatClampNeg) * (n2 - n5)).toInt64) c_terms c_bottom c_cost)))
def f_X4_stayCost (v1 : Int32) (v2 : Int32) (c_terms : Nat → Int32) (c_bottom : Nat → Int64) (c_cost : Nat → Int64) : Option (Int64) :=
  (bnd1 (loop (fun z => f_X4_stayCost_L5 v1 v2 c_terms c_bottom c_cost z.1 z.2) fu (0, 0)) fun m11 =>
  some m11)
set_option maxHeartbeats 4000000 in
set_option maxRecDepth 100000 in
theorem k_X4_stayCost (l : Launch) (hl0 : l.stackTraces = false) (D : va_G) (cI cJ cZ cS : ClassId) (B0 : Nat) (H0 : Heap) (a0 a_terms a_low a_high a_bottom a_cost a_act : Nat) (c_terms : Nat → Int32) (c_bottom : Nat → Int64) (c_cost : Nat → Int64) (v1 : Int32) (v2 : Int32) (r9 : Int64)  (hf : f_X4_stayCost v1 v2 c_terms c_bottom c_cost = some r9) : Met l yX4_stayCost (wz yX4_stayCost cX4_stayCost 9 (some .long)) ({ frames := 2, cells := 0, slots := 0, locals := 62 }) (va_Pc [.ref a0, .int v1, .int v2] (rp D cI cJ cZ cS B0 [oX4 a0 a_terms a_low a_high a_bottom a_cost a_act, rI cI a_terms 10 c_terms, rJ cJ a_bottom 6 c_bottom, rJ cJ a_cost 366 c_cost] H0)) (va_Ql (fun (r2 : Int64) (_ : Unit) => r2 = r9) (fun _ t => t.heap = H0) (fun q => H0.size ≤ q)) 0 0 (fun q => H0.size ≤ q) := by
  refine Met.ofW (cc := cX4_stayCost) (maxL := 9) (ret := (some .long)) (by decide) rfl ?_
  intro p e s m args below meth c s₁ B hml hv
  obtain ⟨rfl, hH, hP, hK, hB0, hE⟩ := hv
  subst hH
  have hx := B.exec
  have hb := B.bytes
  have hr := B.returns
  have hts := atoms_spec (ws := (wz yX4_stayCost cX4_stayCost 9 (some .long))) B.pre
  have hown : s.vm.findClass RX4 = some m.cls := findClass_of_methodNamed B.named
  have hlocks := B.notSynchronized
  have hAB : ∀ q : Nat, s.heap.size ≤ q → B0 ≤ q := fun q h => Nat.le_trans hB0 h
  have hA : ∀ q : Nat, s.heap.size ≤ q → s.heap.size ≤ q := fun _ h => h
  have hS : va_S (fun q => s.heap.size ≤ q) s.heap s.heap [] := va_S.rf
  have hBn := fun (H : Heap) (locs : List Loc) (h : va_S (fun q => s.heap.size ≤ q) s.heap H locs) => Nat.le_trans hB0 h.1
  have hEn := fun (H : Heap) (locs : List Loc) (h : va_S (fun q => s.heap.size ≤ q) s.heap H locs) => gE_now hE h hAB
  have hl := lv_entry ([.ref a0, .int v1, .int v2]) (n := 9) (Nat.le_of_ble_eq_true rfl)
  rw [lg_entry_eq]
  generalize (lg_sl ([.ref a0, .int v1, .int v2]) ++ List.replicate (9 - (lg_sl ([.ref a0, .int v1, .int v2])).length) Slot.unset).toArray = ls at hl ⊢
  have hl : lv_has ls 9 [(0, .ref a0), (1, .int v1), (2, .int v2)] := hl
  obtain ⟨H, hHe⟩ : ∃ H : Heap, H = s.heap := ⟨_, rfl⟩
  have hP : va_P D vwCl [oX4 a0 a_terms a_low a_high a_bottom a_cost a_act, rI cI a_terms 10 c_terms, rJ cJ a_bottom 6 c_bottom, rJ cJ a_cost 366 c_cost] H := by rw [hHe]; exact hP
  have hS : va_S (fun q => s.heap.size ≤ q) s.heap H [] := by rw [hHe]; exact hS
  refine W_heq hHe ?_
  unfold f_X4_stayCost at hf
  refine gen_go (fun WW hWW => ?_)
  have hL5 : ∀ (n : Nat) (n1 : Int32) (n2 : Int32) (n3 : Int64) (n5 : Int32) (e3 : Int64), loop (fun z => f_X4_stayCost_L5 n1 n2 c_terms c_bottom c_cost z.1 z.2) n (n3, n5) = some e3 → (∀ (ls : Array Slot), lv_has ls 9 [(3, .long e3)] → WW (F0 m 93 ls [])) → ∀ (ls : Array Slot), lv_has ls 9 [(0, .ref a0), (1, .int n1), (2, .int n2), (3, .long n3), (5, .int n5)] → WW (F0 m 5 ls []) := by
    intro n
    induction n with
    | zero =>
      intro n1 n2 n3 n5 e3 hlp
      exact absurd hlp (by simp [loop])
    | succ n ih =>
      intro n1 n2 n3 n5 e3 hlp K ls hl
      obtain ⟨x9, hf, hlp⟩ := loop_s hlp
      have hf : f_X4_stayCost_L5 n1 n2 c_terms c_bottom c_cost n3 n5 = some x9 := hf
      unfold f_X4_stayCost_L5 at hf
      have hJ48 : ∀ (n3 : Int64) (n5 : Int32) (n6 : Int32) (t0 : Int64), f_X4_stayCost_L5_J48 n1 n2 n3 n5 n6 t0 c_terms c_bottom c_cost = some x9 → ∀ (ls : Array Slot), lv_has ls 9 [(0, .ref a0), (1, .int n1), (2, .int n2), (3, .long n3), (5, .int n5), (6, .int n6)] → WW (F0 m 48 ls [.long t0]) := by
        intro n3 n5 n6 t0 hf ls hl
        unfold f_X4_stayCost_L5_J48 at hf
        refine (hWW _).mpr ?_
        refine lv_lstore (lv' := [(7, .long t0), (0, .ref a0), (1, .int n1), (2, .int n2), (3, .long n3), (5, .int n5), (6, .int n6)]) hx hb dX4_stayCost_48 hl (by decide) rfl (fun ls hl => ?_)
        refine lv_lload_n hx hb dX4_stayCost_50 rfl (lv_at hl 4 rfl) ?_
        refine lv_aload_n hx hb dX4_stayCost_51 rfl (lv_at hl 1 rfl) ?_
        refine va_get (D := D) (ci := 3) (v := .ref a_terms) (C := RX4) (T := TX4) (N := 6) hx hb hts (fun w h => mb (iX4 w h)) hown hK hP 0 rfl rfl 0 (by decide) (hts _ (mb tb_205)) (fun _ h9 => h9) rfl dX4_stayCost_52 ?_
        refine lv_iload hx hb dX4_stayCost_55 (lv_at hl 5 rfl) ?_
        obtain ⟨h4, hf⟩ := ob_d hf
        refine va_iald hx hb hK hP 1 0 rfl rfl h4 dX4_stayCost_57 ?_
        refine lv_i2l hx hb dX4_stayCost_58 rfl ?_
        refine lv_lload hx hb dX4_stayCost_59 (lv_at hl 0 rfl) ?_
        refine lv_aload_n hx hb dX4_stayCost_61 rfl (lv_at hl 1 rfl) ?_
        refine va_get (D := D) (ci := 3) (v := .ref a_bottom) (C := RX4) (T := TX4) (N := 6) hx hb hts (fun w h => mb (iX4 w h)) hown hK hP 0 rfl rfl 3 (by decide) (hts _ (mb tb_210)) (fun _ h9 => h9) rfl dX4_stayCost_62 ?_
        refine lv_iload_n hx hb dX4_stayCost_65 rfl (lv_at hl 2 rfl) ?_
        refine lv_iconst (v := 1) hx hb dX4_stayCost_66 (by decide) ?_
        refine lv_isub hx hb dX4_stayCost_67 ?_
        obtain ⟨h5, hf⟩ := ob_d hf
        refine va_lald hx hb hK hP 2 1 rfl rfl h5 dX4_stayCost_68 ?_
        refine lv_lmul hx hb dX4_stayCost_69 ?_
        refine lv_aload_n hx hb dX4_stayCost_70 rfl (lv_at hl 1 rfl) ?_
        refine va_get (D := D) (ci := 3) (v := .ref a_cost) (C := RX4) (T := TX4) (N := 6) hx hb hts (fun w h => mb (iX4 w h)) hown hK hP 0 rfl rfl 4 (by decide) (hts _ (mb tb_212)) (fun _ h9 => h9) rfl dX4_stayCost_71 ?_
        refine lv_iload_n hx hb dX4_stayCost_74 rfl (lv_at hl 2 rfl) ?_
        refine lv_iconst (v := 1) hx hb dX4_stayCost_75 (by decide) ?_
        refine lv_isub hx hb dX4_stayCost_76 ?_
        refine lv_iload hx hb dX4_stayCost_77 (lv_at hl 6 rfl) ?_
        obtain ⟨r6, hc7, hf⟩ := ob1 hf
        refine ro_calli (r := r6) (va_runS (As := [.int (n1 - 1), .int n6]) (rest := [.ref a_cost, .long (t0 * (c_bottom (n1 - 1).toNatClampNeg)), .long ((c_terms n5.toNatClampNeg).toInt64), .long n3]) ⟨hx, hb, hml, hown, hts⟩ (k_X4_cell l hl0 D cI cJ cZ cS B0 H (n1 - 1) n6 r6 hc7) (va_cwS 2 hts (gS tb_940 tb_941 tb_6 tb_942) rfl rfl rfl (by decide +kernel) ⟨Nat.le_of_ble_eq_true rfl, Nat.le_of_ble_eq_true rfl⟩) ⟨rp_blind, rp_pre (hP.sub [] rfl) hK (hBn _ _ hS) (hEn _ _ hS)⟩ rfl rfl hl.1 rfl (lv_room (Nat.le_of_ble_eq_true rfl)) dX4_stayCost_79 ⟨Nat.le_of_ble_eq_true rfl, Nat.le_of_ble_eq_true rfl⟩) ?_
        obtain ⟨h8, hf⟩ := ob_d hf
        refine va_lald hx hb hK hP 3 1 rfl rfl h8 dX4_stayCost_82 ?_
        refine lv_ladd hx hb dX4_stayCost_83 ?_
        refine lv_lmul hx hb dX4_stayCost_84 ?_
        refine lv_ladd hx hb dX4_stayCost_85 ?_
        refine lv_lstore_n (lv' := [(3, .long (n3 + (((c_terms n5.toNatClampNeg).toInt64) * ((t0 * (c_bottom (n1 - 1).toNatClampNeg)) + (c_cost r6.toNatClampNeg))))), (7, .long t0), (0, .ref a0), (1, .int n1), (2, .int n2), (5, .int n5), (6, .int n6)]) hx hb dX4_stayCost_86 rfl hl (by decide) rfl (fun ls hl => ?_)
        refine lv_iinc (v := (n5 + 1)) (lv' := [(5, .int (n5 + 1)), (3, .long (n3 + (((c_terms n5.toNatClampNeg).toInt64) * ((t0 * (c_bottom (n1 - 1).toNatClampNeg)) + (c_cost r6.toNatClampNeg))))), (7, .long t0), (0, .ref a0), (1, .int n1), (2, .int n2), (6, .int n6)]) hx hb dX4_stayCost_87 hl (k := 5) rfl rfl (by decide) rfl (fun ls hl => ?_)
        refine lv_goto (tgt := 5) hx hb dX4_stayCost_90 (by decide) ?_
        obtain rfl := Option.some.inj hf
        exact (hWW _).mp (ih _ _ _ _ _ hlp K ls (lv_sub hl [3, 4, 5, 1, 0] rfl))
      refine (hWW _).mpr ?_
      refine lv_iload hx hb dX4_stayCost_5 (lv_at hl 4 rfl) ?_
      refine lv_iconst (v := 5) hx hb dX4_stayCost_7 (by decide) ?_
      refine lv_icmp_ge (tgt := 93) hx hb dX4_stayCost_8 (by decide) (fun h1 => ?_) (fun h1 => ?_)
      · have hf := ipos h1 hf
        obtain rfl := Option.some.inj hf
        cases lpx_r hlp
        exact (hWW _).mp (K ls (lv_sub hl [3] rfl))
      · have hf := ineg h1 hf
        refine lv_iload_n hx hb dX4_stayCost_11 rfl (lv_at hl 2 rfl) ?_
        refine lv_iload hx hb dX4_stayCost_12 (lv_at hl 4 rfl) ?_
        refine lv_isub hx hb dX4_stayCost_14 ?_
        refine lv_istore (lv' := [(6, .int (n2 - n5)), (0, .ref a0), (1, .int n1), (2, .int n2), (3, .long n3), (5, .int n5)]) hx hb dX4_stayCost_15 hl (by decide) rfl (fun ls hl => ?_)
        refine lv_iload hx hb dX4_stayCost_17 (lv_at hl 0 rfl) ?_
        refine lv_if_le (tgt := 36) hx hb dX4_stayCost_19 (by decide) (fun h2 => ?_) (fun h2 => ?_)
        · have hf := ipos h2 hf
          refine lv_aload_n hx hb dX4_stayCost_36 rfl (lv_at hl 1 rfl) ?_
          refine va_get (D := D) (ci := 3) (v := .ref a_terms) (C := RX4) (T := TX4) (N := 6) hx hb hts (fun w h => mb (iX4 w h)) hown hK hP 0 rfl rfl 0 (by decide) (hts _ (mb tb_205)) (fun _ h9 => h9) rfl dX4_stayCost_37 ?_
          refine lv_bipush (v := 8) hx hb dX4_stayCost_40 (by decide) ?_
          obtain ⟨h3, hf⟩ := ob_d hf
          refine va_iald hx hb hK hP 1 0 rfl rfl h3 dX4_stayCost_42 ?_
          refine lv_iload hx hb dX4_stayCost_43 (lv_at hl 0 rfl) ?_
          refine lv_ineg hx hb dX4_stayCost_45 ?_
          refine lv_imul hx hb dX4_stayCost_46 ?_
          refine lv_i2l hx hb dX4_stayCost_47 rfl ?_
          exact (hWW _).mp (hJ48 _ _ _ _ hf ls (lv_sub hl [1, 2, 3, 4, 5, 0] rfl))
        · have hf := ineg h2 hf
          refine lv_aload_n hx hb dX4_stayCost_22 rfl (lv_at hl 1 rfl) ?_
          refine va_get (D := D) (ci := 3) (v := .ref a_terms) (C := RX4) (T := TX4) (N := 6) hx hb hts (fun w h => mb (iX4 w h)) hown hK hP 0 rfl rfl 0 (by decide) (hts _ (mb tb_205)) (fun _ h9 => h9) rfl dX4_stayCost_23 ?_
          refine lv_bipush (v := 7) hx hb dX4_stayCost_26 (by decide) ?_
          obtain ⟨h9, hf⟩ := ob_d hf
          refine va_iald hx hb hK hP 1 0 rfl rfl h9 dX4_stayCost_28 ?_
          refine lv_iload hx hb dX4_stayCost_29 (lv_at hl 0 rfl) ?_
          refine lv_imul hx hb dX4_stayCost_31 ?_
          refine lv_i2l hx hb dX4_stayCost_32 rfl ?_
          refine lv_goto (tgt := 48) hx hb dX4_stayCost_33 (by decide) ?_
          exact (hWW _).mp (hJ48 _ _ _ _ hf ls (lv_sub hl [1, 2, 3, 4, 5, 0] rfl))
  refine (hWW _).mpr ?_
  refine lv_lconst (v := 0) hx hb dX4_stayCost_0 (by decide) ?_
  refine lv_lstore_n (lv' := [(3, .long 0), (0, .ref a0), (1, .int v1), (2, .int v2)]) hx hb dX4_stayCost_1 rfl hl (by decide) rfl (fun ls hl => ?_)
  refine lv_iconst (v := 0) hx hb dX4_stayCost_2 (by decide) ?_
  refine lv_istore (lv' := [(5, .int 0), (3, .long 0), (0, .ref a0), (1, .int v1), (2, .int v2)]) hx hb dX4_stayCost_3 hl (by decide) rfl (fun ls hl => ?_)
  obtain ⟨m11, hc10, hf⟩ := ob1 hf
  refine (hWW _).mp (hL5 fu _ _ _ _ _ hc10 (fun ls hl => ?_) ls (lv_sub hl [2, 3, 4, 1, 0] rfl))
  · refine (hWW _).mpr ?_
    refine lv_lload_n hx hb dX4_stayCost_93 rfl (lv_at hl 0 rfl) ?_
    cases hf
    exact W.lret hx hb hr (fun t ht hW => ⟨⟨_, (), rfl, rfl, (ht.trans hHe)⟩, hS.F ht⟩) hS.2.2 dX4_stayCost_94
def f_X4_solvePeriod_L62_J240 (n1 : Int32) (n2 : Int32) (n3 : Int64) (n5 : Int64) (n7 : Int32) (n8 : Int64) (n10 : Int32) (c_terms : Nat → Int32) (c_low : Nat → Int32) (c_high : Nat → Int32) (c_bottom : Nat → Int64) (c_cost : Nat → Int64) (c_act : Nat → Int32) : Option ((Int32 × Int64 × Int32 × (Nat → Int32) × (Nat → Int32) × (Nat → Int64) × (Nat → Int32)) ⊕ ((Nat → Int32) × (Nat → Int32) × (Nat → Int64) × (Nat → Int32))) :=
  some (.inl (n7, n8, n10 + (-1), c_low, c_high, c_cost, c_act))
def f_X4_solvePeriod_L62_J239 (n1 : Int32) (n2 : Int32) (n3 : Int64) (n5 : Int64) (n7 : Int32) (n8 : Int64) (n10 : Int32) (t1 : Int32) (t2 : Int32) (c_terms : Nat → Int32) (c_low : Nat → Int32) (c_high : Nat → Int32) (c_bottom : Nat → Int64) (c_cost : Nat → Int64) (c_act : Nat → Int32) : Option ((Int32 × Int64 × Int32 × (Nat → Int32) × (Nat → Int32) × (Nat → Int64) × (Nat → Int32)) ⊕ ((Nat → Int32) × (Nat → Int32) × (Nat → Int64) × (Nat → Int32))) :=
  gd t1 6 (f_X4_solvePeriod_L62_J240 n1 n2 n3 n5 n7 n8 n10 c_terms (upd c_low t1.toNatClampNeg t2) c_high c_bottom c_cost c_act)
def f_X4_solvePeriod_L62_J203 (n1 : Int32) (n2 : Int32) (n3 : Int64) (n5 : Int64) (n7 : Int32) (n8 : Int64) (n10 : Int32) (n15 : Int32) (c_terms : Nat → Int32) (c_low : Nat → Int32) (c_high : Nat → Int32) (c_bottom : Nat → Int64) (c_cost : Nat → Int64) (c_act : Nat → Int32) : Option ((Int32 × Int64 × Int32 × (Nat → Int32) × (Nat → Int32) × (Nat → Int64) × (Nat → Int32)) ⊕ ((Nat → Int32) × (Nat → Int32) × (Nat → Int64) × (Nat → Int32))) :=
  (if n10 < (-20) then f_X4_solvePeriod_L62_J240 n1 n2 n3 n5 n7 n8 n10 c_terms c_low c_high c_bottom c_cost c_act
  else gd n1 6 ((if n15 = 0 then f_X4_solvePeriod_L62_J239 n1 n2 n3 n5 n7 n8 n10 n1 n10 c_terms c_low (upd c_high n1.toNatClampNeg n7) c_bottom c_cost c_act
  else gd n1 6 (f_X4_solvePeriod_L62_J239 n1 n2 n3 n5 n7 n8 n10 n1 (c_low n1.toNatClampNeg) c_terms c_low (upd c_high n1.toNatClampNeg n7) c_bottom c_cost c_act))))
def f_X4_solvePeriod_L62_J189 (n1 : Int32) (n2 : Int32) (n3 : Int64) (n5 : Int64) (n10 : Int32) (n11 : Int64) (n15 : Int32) (c_terms : Nat → Int32) (c_low : Nat → Int32) (c_high : Nat → Int32) (c_bottom : Nat → Int64) (c_cost : Nat → Int64) (c_act : Nat → Int32) : Option ((Int32 × Int64 × Int32 × (Nat → Int32) × (Nat → Int32) × (Nat → Int64) × (Nat → Int32)) ⊕ ((Nat → Int32) × (Nat → Int32) × (Nat → Int64) × (Nat → Int32))) :=
  f_X4_solvePeriod_L62_J203 n1 n2 n3 n5 n10 (n11 + (n3 * n10.toInt64)) n10 n15 c_terms c_low c_high c_bottom c_cost c_act
def f_X4_solvePeriod_L62_J162 (n1 : Int32) (n2 : Int32) (n3 : Int64) (n5 : Int64) (n7 : Int32) (n8 : Int64) (n10 : Int32) (n11 : Int64) (n15 : Int32) (t1 : Int32) (t2 : Int32) (c_terms : Nat → Int32) (c_low : Nat → Int32) (c_high : Nat → Int32) (c_bottom : Nat → Int64) (c_cost : Nat → Int64) (c_act : Nat → Int32) : Option ((Int32 × Int64 × Int32 × (Nat → Int32) × (Nat → Int32) × (Nat → Int64) × (Nat → Int32)) ⊕ ((Nat → Int32) × (Nat → Int32) × (Nat → Int64) × (Nat → Int32))) :=
  gd t1 366 (gd 9 10 ((if n10 = (c_terms (9 : Int32).toNatClampNeg) then f_X4_solvePeriod_L62_J189 n1 n2 n3 n5 n10 n11 n15 c_terms c_low c_high c_bottom c_cost (upd c_act t1.toNatClampNeg t2)
  else (if 0 < (lg_cmp (n11 + (n3 * n10.toInt64)) n8) then f_X4_solvePeriod_L62_J203 n1 n2 n3 n5 n7 n8 n10 n15 c_terms c_low c_high c_bottom c_cost (upd c_act t1.toNatClampNeg t2)
  else f_X4_solvePeriod_L62_J189 n1 n2 n3 n5 n10 n11 n15 c_terms c_low c_high c_bottom c_cost (upd c_act t1.toNatClampNeg t2)))))
def f_X4_solvePeriod_L62_J139 (n1 : Int32) (n2 : Int32) (n3 : Int64) (n5 : Int64) (n7 : Int32) (n8 : Int64) (n10 : Int32) (n11 : Int64) (n15 : Int32) (t1 : Int32) (t2 : Int64) (c_terms : Nat → Int32) (c_low : Nat → Int32) (c_high : Nat → Int32) (c_bottom : Nat → Int64) (c_cost : Nat → Int64) (c_act : Nat → Int32) : Option ((Int32 × Int64 × Int32 × (Nat → Int32) × (Nat → Int32) × (Nat → Int64) × (Nat → Int32)) ⊕ ((Nat → Int32) × (Nat → Int32) × (Nat → Int64) × (Nat → Int32))) :=
  gd t1 366 (bnd1 (f_X4_cell n1 n10) (fun r16 =>
  ((if n15 = 0 then f_X4_solvePeriod_L62_J162 n1 n2 n3 n5 n7 n8 n10 n11 n15 r16 n10 c_terms c_low c_high c_bottom (vp_updL c_cost t1.toNatClampNeg t2) c_act
  else f_X4_solvePeriod_L62_J162 n1 n2 n3 n5 n7 n8 n10 n11 n15 r16 n7 c_terms c_low c_high c_bottom (vp_updL c_cost t1.toNatClampNeg t2) c_act))))
def f_X4_solvePeriod_L62_J115 (n1 : Int32) (n2 : Int32) (n3 : Int64) (n5 : Int64) (n7 : Int32) (n8 : Int64) (n10 : Int32) (n11 : Int64) (n13 : Int64) (t0 : Int32) (c_terms : Nat → Int32) (c_low : Nat → Int32) (c_high : Nat → Int32) (c_bottom : Nat → Int64) (c_cost : Nat → Int64) (c_act : Nat → Int32) : Option ((Int32 × Int64 × Int32 × (Nat → Int32) × (Nat → Int32) × (Nat → Int64) × (Nat → Int32)) ⊕ ((Nat → Int32) × (Nat → Int32) × (Nat → Int64) × (Nat → Int32))) :=
  bnd1 (f_X4_cell n1 n10) (fun r12 =>
  ((if t0 = 0 then f_X4_solvePeriod_L62_J139 n1 n2 n3 n5 n7 n8 n10 n11 t0 r12 n11 c_terms c_low c_high c_bottom c_cost c_act
  else f_X4_solvePeriod_L62_J139 n1 n2 n3 n5 n7 n8 n10 n11 t0 r12 n13 c_terms c_low c_high c_bottom c_cost c_act)))
def f_X4_solvePeriod_L62_J114 (n1 : Int32) (n2 : Int32) (n3 : Int64) (n5 : Int64) (n7 : Int32) (n8 : Int64) (n10 : Int32) (n11 : Int64) (n13 : Int64) (c_terms : Nat → Int32) (c_low : Nat → Int32) (c_high : Nat → Int32) (c_bottom : Nat → Int64) (c_cost : Nat → Int64) (c_act : Nat → Int32) : Option ((Int32 × Int64 × Int32 × (Nat → Int32) × (Nat → Int32) × (Nat → Int64) × (Nat → Int32)) ⊕ ((Nat → Int32) × (Nat → Int32) × (Nat → Int64) × (Nat → Int32))) :=
  f_X4_solvePeriod_L62_J115 n1 n2 n3 n5 n7 n8 n10 n11 n13 0 c_terms c_low c_high c_bottom c_cost c_act
def f_X4_solvePeriod_L62 (n1 : Int32) (n2 : Int32) (n3 : Int64) (n5 : Int64) (c_terms : Nat → Int32) (c_bottom : Nat → Int64) (n7 : Int32) (n8 : Int64) (n10 : Int32) (c_low : Nat → Int32) (c_high : Nat → Int32) (c_cost : Nat → Int64) (c_act : Nat → Int32) : Option ((Int32 × Int64 × Int32 × (Nat → Int32) × (Nat → Int32) × (Nat → Int64) × (Nat → Int32)) ⊕ ((Nat → Int32) × (Nat → Int32) × (Nat → Int64) × (Nat → Int32))) :=
  (if n10 < n2 then some (.inr (c_low, c_high, c_cost, c_act))
  else bnd1 (f_X4_stayCost n1 n10 c_terms c_bottom c_cost) (fun r8 =>
  (gd 9 10 ((if (c_terms (9 : Int32).toNatClampNeg) ≤ n10 then f_X4_solvePeriod_L62_J114 n1 n2 n3 n5 n7 n8 n10 r8 ((n5 + n8) - (n3 * n10.toInt64)) c_terms c_low c_high c_bottom c_cost c_act
  else (if 0 ≤ (lg_cmp ((n5 + n8) - (n3 * n10.toInt64)) r8) then f_X4_solvePeriod_L62_J114 n1 n2 n3 n5 n7 n8 n10 r8 ((n5 + n8) - (n3 * n10.toInt64)) c_terms c_low c_high c_bottom c_cost c_act
  else f_X4_solvePeriod_L62_J115 n1 n2 n3 n5 n7 n8 n10 r8 ((n5 + n8) - (n3 * n10.toInt64)) 1 c_terms c_low c_high c_bottom c_cost c_act))))))
def f_X4_solvePeriod (v1 : Int32) (c_terms : Nat → Int32) (c_low : Nat → Int32) (c_high : Nat → Int32) (c_bottom : Nat → Int64) (c_cost : Nat → Int64) (c_act : Nat → Int32) : Option ((Nat → Int32) × (Nat → Int32) × (Nat → Int64) × (Nat → Int32)) :=
  gd 6 10 (gd v1 6 (gd 5 10 (gd v1 6 (gd 9 10 (gd 9 10 ((bnd4 (loop (fun z => f_X4_solvePeriod_L62 v1 ((-20) - (4 * (5 - v1))) (((c_terms (6 : Int32).toNatClampNeg).toInt64) * (c_bottom v1.toNatClampNeg)) (((c_terms (5 : Int32).toNatClampNeg).toInt64) * (c_bottom v1.toNatClampNeg)) c_terms c_bottom z.1 z.2.1 z.2.2.1 z.2.2.2.1 z.2.2.2.2.1 z.2.2.2.2.2.1 z.2.2.2.2.2.2) fu (c_terms (9 : Int32).toNatClampNeg, 0, c_terms (9 : Int32).toNatClampNeg, c_low, c_high, c_cost, c_act)) fun c30 c31 c32 c33 =>
  some (c30, c31, c32, c33))))))))
set_option maxHeartbeats 4000000 in
set_option maxRecDepth 100000 in
theorem k_X4_solvePeriod (l : Launch) (hl0 : l.stackTraces = false) (D : va_G) (cI cJ cZ cS : ClassId) (B0 : Nat) (sz : Nat) (a0 a_terms a_low a_high a_bottom a_cost a_act : Nat) (c_terms : Nat → Int32) (c_low : Nat → Int32) (c_high : Nat → Int32) (c_bottom : Nat → Int64) (c_cost : Nat → Int64) (c_act : Nat → Int32) (v1 : Int32) (oc_low : Nat → Int32) (oc_high : Nat → Int32) (oc_cost : Nat → Int64) (oc_act : Nat → Int32)  (hf : f_X4_solvePeriod v1 c_terms c_low c_high c_bottom c_cost c_act = some (oc_low, oc_high, oc_cost, oc_act)) : Met l yX4_solvePeriod (wz yX4_solvePeriod cX4_solvePeriod 16 none) ({ frames := 3, cells := 0, slots := 0, locals := 90 }) (va_Pc [.ref a0, .int v1] (wp D cI cJ cZ cS B0 [oX4 a0 a_terms a_low a_high a_bottom a_cost a_act, rI cI a_terms 10 c_terms, rI cI a_low 6 c_low, rI cI a_high 6 c_high, rJ cJ a_bottom 6 c_bottom, rJ cJ a_cost 366 c_cost, rI cI a_act 366 c_act] sz)) (va_Qv (fun (_ : Unit) => True) (fun _ t => va_P D vwCl [oX4 a0 a_terms a_low a_high a_bottom a_cost a_act, rI cI a_terms 10 c_terms, rI cI a_low 6 oc_low, rI cI a_high 6 oc_high, rJ cJ a_bottom 6 c_bottom, rJ cJ a_cost 366 oc_cost, rI cI a_act 366 oc_act] t.heap) (va_A [oX4 a0 a_terms a_low a_high a_bottom a_cost a_act, rI cI a_terms 10 c_terms, rI cI a_low 6 c_low, rI cI a_high 6 c_high, rJ cJ a_bottom 6 c_bottom, rJ cJ a_cost 366 c_cost, rI cI a_act 366 c_act] sz)) 0 0 (va_A [oX4 a0 a_terms a_low a_high a_bottom a_cost a_act, rI cI a_terms 10 c_terms, rI cI a_low 6 c_low, rI cI a_high 6 c_high, rJ cJ a_bottom 6 c_bottom, rJ cJ a_cost 366 c_cost, rI cI a_act 366 c_act] sz) := by
  refine Met.ofW (cc := cX4_solvePeriod) (maxL := 16) (ret := none) (by decide) rfl ?_
  intro p e s m args below meth c s₁ B hml hv
  obtain ⟨rfl, hsz, hP, hK, hD0, hB0, hE⟩ := hv
  subst hsz
  have hx := B.exec
  have hb := B.bytes
  have hr := B.returns
  have hts := atoms_spec (ws := (wz yX4_solvePeriod cX4_solvePeriod 16 none)) B.pre
  have hown : s.vm.findClass RX4 = some m.cls := findClass_of_methodNamed B.named
  have hlocks := B.notSynchronized
  have hD := hD0.self (sz := s.heap.size)
  have hAB : ∀ q : Nat, va_A [oX4 a0 a_terms a_low a_high a_bottom a_cost a_act, rI cI a_terms 10 c_terms, rI cI a_low 6 c_low, rI cI a_high 6 c_high, rJ cJ a_bottom 6 c_bottom, rJ cJ a_cost 366 c_cost, rI cI a_act 366 c_act] s.heap.size q → B0 ≤ q := va_A_B hD0 hB0
  generalize hAe : va_A [oX4 a0 a_terms a_low a_high a_bottom a_cost a_act, rI cI a_terms 10 c_terms, rI cI a_low 6 c_low, rI cI a_high 6 c_high, rJ cJ a_bottom 6 c_bottom, rJ cJ a_cost 366 c_cost, rI cI a_act 366 c_act] s.heap.size = A at hD hAB ⊢
  have hA : ∀ q : Nat, s.heap.size ≤ q → A q := fun q h => by rw [← hAe]; exact Or.inr h
  have hFa := hA
  have hS : va_S A s.heap s.heap [] := va_S.rf
  have hBn := fun (H : Heap) (locs : List Loc) (h : va_S A s.heap H locs) => Nat.le_trans hB0 h.1
  have hEn := fun (H : Heap) (locs : List Loc) (h : va_S A s.heap H locs) => gE_now hE h hAB
  have hl := lv_entry ([.ref a0, .int v1]) (n := 16) (Nat.le_of_ble_eq_true rfl)
  rw [lg_entry_eq]
  generalize (lg_sl ([.ref a0, .int v1]) ++ List.replicate (16 - (lg_sl ([.ref a0, .int v1])).length) Slot.unset).toArray = ls at hl ⊢
  have hl : lv_has ls 16 [(0, .ref a0), (1, .int v1)] := hl
  obtain ⟨H, hHe⟩ : ∃ H : Heap, H = s.heap := ⟨_, rfl⟩
  have hP : va_P D vwCl [oX4 a0 a_terms a_low a_high a_bottom a_cost a_act, rI cI a_terms 10 c_terms, rI cI a_low 6 c_low, rI cI a_high 6 c_high, rJ cJ a_bottom 6 c_bottom, rJ cJ a_cost 366 c_cost, rI cI a_act 366 c_act] H := by rw [hHe]; exact hP
  have hS : va_S A s.heap H [] := by rw [hHe]; exact hS
  refine W_heq hHe ?_
  unfold f_X4_solvePeriod at hf
  refine gen_goW (fun WW hWW => ?_)
  have hL62 : ∀ (n : Nat) (n1 : Int32) (n2 : Int32) (n3 : Int64) (n5 : Int64) (n7 : Int32) (n8 : Int64) (n10 : Int32) (c_low : Nat → Int32) (c_high : Nat → Int32) (c_cost : Nat → Int64) (c_act : Nat → Int32) (e_c_low : Nat → Int32) (e_c_high : Nat → Int32) (e_c_cost : Nat → Int64) (e_c_act : Nat → Int32), loop (fun z => f_X4_solvePeriod_L62 n1 n2 n3 n5 c_terms c_bottom z.1 z.2.1 z.2.2.1 z.2.2.2.1 z.2.2.2.2.1 z.2.2.2.2.2.1 z.2.2.2.2.2.2) n (n7, n8, n10, c_low, c_high, c_cost, c_act) = some (e_c_low, e_c_high, e_c_cost, e_c_act) → (∀ (H : Heap) (locs : List Loc) (ls : Array Slot), va_P D vwCl [oX4 a0 a_terms a_low a_high a_bottom a_cost a_act, rI cI a_terms 10 c_terms, rI cI a_low 6 e_c_low, rI cI a_high 6 e_c_high, rJ cJ a_bottom 6 c_bottom, rJ cJ a_cost 366 e_c_cost, rI cI a_act 366 e_c_act] H → va_D A [oX4 a0 a_terms a_low a_high a_bottom a_cost a_act, rI cI a_terms 10 c_terms, rI cI a_low 6 e_c_low, rI cI a_high 6 e_c_high, rJ cJ a_bottom 6 c_bottom, rJ cJ a_cost 366 e_c_cost, rI cI a_act 366 e_c_act] → va_S A s.heap H locs → lv_has ls 16 [] → WW H locs 0 0 (F0 m 246 ls [])) → ∀ (H : Heap) (locs : List Loc) (ls : Array Slot), va_P D vwCl [oX4 a0 a_terms a_low a_high a_bottom a_cost a_act, rI cI a_terms 10 c_terms, rI cI a_low 6 c_low, rI cI a_high 6 c_high, rJ cJ a_bottom 6 c_bottom, rJ cJ a_cost 366 c_cost, rI cI a_act 366 c_act] H → va_D A [oX4 a0 a_terms a_low a_high a_bottom a_cost a_act, rI cI a_terms 10 c_terms, rI cI a_low 6 c_low, rI cI a_high 6 c_high, rJ cJ a_bottom 6 c_bottom, rJ cJ a_cost 366 c_cost, rI cI a_act 366 c_act] → va_S A s.heap H locs → lv_has ls 16 [(0, .ref a0), (1, .int n1), (2, .int n2), (3, .long n3), (5, .long n5), (7, .int n7), (8, .long n8), (10, .int n10)] → WW H locs 0 0 (F0 m 62 ls []) := by
    intro n
    induction n with
    | zero =>
      intro n1 n2 n3 n5 n7 n8 n10 c_low c_high c_cost c_act e_c_low e_c_high e_c_cost e_c_act hlp
      exact absurd hlp (by simp [loop])
    | succ n ih =>
      intro n1 n2 n3 n5 n7 n8 n10 c_low c_high c_cost c_act e_c_low e_c_high e_c_cost e_c_act hlp K H locs ls hP hD hS hl
      obtain ⟨x9, hf, hlp⟩ := loop_s hlp
      have hf : f_X4_solvePeriod_L62 n1 n2 n3 n5 c_terms c_bottom n7 n8 n10 c_low c_high c_cost c_act = some x9 := hf
      unfold f_X4_solvePeriod_L62 at hf
      have hJ240 : ∀ (n7 : Int32) (n8 : Int64) (n10 : Int32) (c_low : Nat → Int32) (c_high : Nat → Int32) (c_cost : Nat → Int64) (c_act : Nat → Int32), f_X4_solvePeriod_L62_J240 n1 n2 n3 n5 n7 n8 n10 c_terms c_low c_high c_bottom c_cost c_act = some x9 → ∀ (H : Heap) (locs : List Loc) (ls : Array Slot), va_P D vwCl [oX4 a0 a_terms a_low a_high a_bottom a_cost a_act, rI cI a_terms 10 c_terms, rI cI a_low 6 c_low, rI cI a_high 6 c_high, rJ cJ a_bottom 6 c_bottom, rJ cJ a_cost 366 c_cost, rI cI a_act 366 c_act] H → va_D A [oX4 a0 a_terms a_low a_high a_bottom a_cost a_act, rI cI a_terms 10 c_terms, rI cI a_low 6 c_low, rI cI a_high 6 c_high, rJ cJ a_bottom 6 c_bottom, rJ cJ a_cost 366 c_cost, rI cI a_act 366 c_act] → va_S A s.heap H locs → lv_has ls 16 [(0, .ref a0), (1, .int n1), (2, .int n2), (3, .long n3), (5, .long n5), (7, .int n7), (8, .long n8), (10, .int n10)] → WW H locs 0 0 (F0 m 240 ls []) := by
        intro n7 n8 n10 c_low c_high c_cost c_act hf H locs ls hP hD hS hl
        unfold f_X4_solvePeriod_L62_J240 at hf
        refine (hWW _ _ _ _ _).mpr ?_
        refine lv_iinc (v := (n10 + (-1))) (lv' := [(10, .int (n10 + (-1))), (0, .ref a0), (1, .int n1), (2, .int n2), (3, .long n3), (5, .long n5), (7, .int n7), (8, .long n8)]) hx hb dX4_solvePeriod_240 hl (k := 7) rfl rfl (by decide) rfl (fun ls hl => ?_)
        refine lv_goto (tgt := 62) hx hb dX4_solvePeriod_243 (by decide) ?_
        obtain rfl := Option.some.inj hf
        exact (hWW _ _ _ _ _).mp (ih _ _ _ _ _ _ _ _ _ _ _ _ _ _ _ hlp K _ _ ls hP hD hS (lv_sub hl [1, 2, 3, 4, 5, 6, 7, 0] rfl))
      have hJ239 : ∀ (n7 : Int32) (n8 : Int64) (n10 : Int32) (t1 : Int32) (t2 : Int32) (c_low : Nat → Int32) (c_high : Nat → Int32) (c_cost : Nat → Int64) (c_act : Nat → Int32), f_X4_solvePeriod_L62_J239 n1 n2 n3 n5 n7 n8 n10 t1 t2 c_terms c_low c_high c_bottom c_cost c_act = some x9 → ∀ (H : Heap) (locs : List Loc) (ls : Array Slot), va_P D vwCl [oX4 a0 a_terms a_low a_high a_bottom a_cost a_act, rI cI a_terms 10 c_terms, rI cI a_low 6 c_low, rI cI a_high 6 c_high, rJ cJ a_bottom 6 c_bottom, rJ cJ a_cost 366 c_cost, rI cI a_act 366 c_act] H → va_D A [oX4 a0 a_terms a_low a_high a_bottom a_cost a_act, rI cI a_terms 10 c_terms, rI cI a_low 6 c_low, rI cI a_high 6 c_high, rJ cJ a_bottom 6 c_bottom, rJ cJ a_cost 366 c_cost, rI cI a_act 366 c_act] → va_S A s.heap H locs → lv_has ls 16 [(0, .ref a0), (1, .int n1), (2, .int n2), (3, .long n3), (5, .long n5), (7, .int n7), (8, .long n8), (10, .int n10)] → WW H locs 0 0 (F0 m 239 ls [.int t2, .int t1, .ref a_low]) := by
        intro n7 n8 n10 t1 t2 c_low c_high c_cost c_act hf H locs ls hP hD hS hl
        unfold f_X4_solvePeriod_L62_J239 at hf
        refine (hWW _ _ _ _ _).mpr ?_
        obtain ⟨h25, hf⟩ := ob_d hf
        refine va_iast hx hb hK hP hD hS 2 0 rfl rfl h25 dX4_solvePeriod_239 (fun H locs hP hD hS => ?_)
        have hP : va_P D vwCl [oX4 a0 a_terms a_low a_high a_bottom a_cost a_act, rI cI a_terms 10 c_terms, rI cI a_low 6 (upd c_low t1.toNatClampNeg t2), rI cI a_high 6 c_high, rJ cJ a_bottom 6 c_bottom, rJ cJ a_cost 366 c_cost, rI cI a_act 366 c_act] H := hP
        have hD : va_D A [oX4 a0 a_terms a_low a_high a_bottom a_cost a_act, rI cI a_terms 10 c_terms, rI cI a_low 6 (upd c_low t1.toNatClampNeg t2), rI cI a_high 6 c_high, rJ cJ a_bottom 6 c_bottom, rJ cJ a_cost 366 c_cost, rI cI a_act 366 c_act] := hD
        exact (hWW _ _ _ _ _).mp (hJ240 _ _ _ _ _ _ _ hf _ _ ls hP hD hS (lv_sub hl [0, 1, 2, 3, 4, 5, 6, 7] rfl))
      have hJ203 : ∀ (n7 : Int32) (n8 : Int64) (n10 : Int32) (n15 : Int32) (c_low : Nat → Int32) (c_high : Nat → Int32) (c_cost : Nat → Int64) (c_act : Nat → Int32), f_X4_solvePeriod_L62_J203 n1 n2 n3 n5 n7 n8 n10 n15 c_terms c_low c_high c_bottom c_cost c_act = some x9 → ∀ (H : Heap) (locs : List Loc) (ls : Array Slot), va_P D vwCl [oX4 a0 a_terms a_low a_high a_bottom a_cost a_act, rI cI a_terms 10 c_terms, rI cI a_low 6 c_low, rI cI a_high 6 c_high, rJ cJ a_bottom 6 c_bottom, rJ cJ a_cost 366 c_cost, rI cI a_act 366 c_act] H → va_D A [oX4 a0 a_terms a_low a_high a_bottom a_cost a_act, rI cI a_terms 10 c_terms, rI cI a_low 6 c_low, rI cI a_high 6 c_high, rJ cJ a_bottom 6 c_bottom, rJ cJ a_cost 366 c_cost, rI cI a_act 366 c_act] → va_S A s.heap H locs → lv_has ls 16 [(0, .ref a0), (1, .int n1), (2, .int n2), (3, .long n3), (5, .long n5), (7, .int n7), (8, .long n8), (10, .int n10), (15, .int n15)] → WW H locs 0 0 (F0 m 203 ls []) := by
        intro n7 n8 n10 n15 c_low c_high c_cost c_act hf H locs ls hP hD hS hl
        unfold f_X4_solvePeriod_L62_J203 at hf
        refine (hWW _ _ _ _ _).mpr ?_
        refine lv_iload hx hb dX4_solvePeriod_203 (lv_at hl 7 rfl) ?_
        refine lv_bipush (v := (-20)) hx hb dX4_solvePeriod_205 (by decide) ?_
        refine lv_icmp_lt (tgt := 240) hx hb dX4_solvePeriod_207 (by decide) (fun h22 => ?_) (fun h22 => ?_)
        · have hf := ipos h22 hf
          exact (hWW _ _ _ _ _).mp (hJ240 _ _ _ _ _ _ _ hf _ _ ls hP hD hS (lv_sub hl [0, 1, 2, 3, 4, 5, 6, 7] rfl))
        · have hf := ineg h22 hf
          refine lv_aload_n hx hb dX4_solvePeriod_210 rfl (lv_at hl 0 rfl) ?_
          refine va_get (D := D) (ci := 3) (v := .ref a_high) (C := RX4) (T := TX4) (N := 6) hx hb hts (fun w h => mb (iX4 w h)) hown hK hP 0 rfl rfl 2 (by decide) (hts _ (mb tb_208)) (fun _ h9 => h9) rfl dX4_solvePeriod_211 ?_
          refine lv_iload_n hx hb dX4_solvePeriod_214 rfl (lv_at hl 1 rfl) ?_
          refine lv_iload hx hb dX4_solvePeriod_215 (lv_at hl 5 rfl) ?_
          obtain ⟨h23, hf⟩ := ob_d hf
          refine va_iast hx hb hK hP hD hS 3 0 rfl rfl h23 dX4_solvePeriod_217 (fun H locs hP hD hS => ?_)
          have hP : va_P D vwCl [oX4 a0 a_terms a_low a_high a_bottom a_cost a_act, rI cI a_terms 10 c_terms, rI cI a_low 6 c_low, rI cI a_high 6 (upd c_high n1.toNatClampNeg n7), rJ cJ a_bottom 6 c_bottom, rJ cJ a_cost 366 c_cost, rI cI a_act 366 c_act] H := hP
          have hD : va_D A [oX4 a0 a_terms a_low a_high a_bottom a_cost a_act, rI cI a_terms 10 c_terms, rI cI a_low 6 c_low, rI cI a_high 6 (upd c_high n1.toNatClampNeg n7), rJ cJ a_bottom 6 c_bottom, rJ cJ a_cost 366 c_cost, rI cI a_act 366 c_act] := hD
          refine lv_aload_n hx hb dX4_solvePeriod_218 rfl (lv_at hl 0 rfl) ?_
          refine va_get (D := D) (ci := 3) (v := .ref a_low) (C := RX4) (T := TX4) (N := 6) hx hb hts (fun w h => mb (iX4 w h)) hown hK hP 0 rfl rfl 1 (by decide) (hts _ (mb tb_206)) (fun _ h9 => h9) rfl dX4_solvePeriod_219 ?_
          refine lv_iload_n hx hb dX4_solvePeriod_222 rfl (lv_at hl 1 rfl) ?_
          refine lv_iload hx hb dX4_solvePeriod_223 (lv_at hl 8 rfl) ?_
          refine lv_if_eq (tgt := 237) hx hb dX4_solvePeriod_225 (by decide) (fun h24 => ?_) (fun h24 => ?_)
          · have hf := ipos h24 hf
            refine lv_iload hx hb dX4_solvePeriod_237 (lv_at hl 7 rfl) ?_
            exact (hWW _ _ _ _ _).mp (hJ239 _ _ _ _ _ _ _ _ _ hf _ _ ls hP hD hS (lv_sub hl [0, 1, 2, 3, 4, 5, 6, 7] rfl))
          · have hf := ineg h24 hf
            refine lv_aload_n hx hb dX4_solvePeriod_228 rfl (lv_at hl 0 rfl) ?_
            refine va_get (D := D) (ci := 3) (v := .ref a_low) (C := RX4) (T := TX4) (N := 6) hx hb hts (fun w h => mb (iX4 w h)) hown hK hP 0 rfl rfl 1 (by decide) (hts _ (mb tb_206)) (fun _ h9 => h9) rfl dX4_solvePeriod_229 ?_
            refine lv_iload_n hx hb dX4_solvePeriod_232 rfl (lv_at hl 1 rfl) ?_
            obtain ⟨h26, hf⟩ := ob_d hf
            refine va_iald hx hb hK hP 2 0 rfl rfl h26 dX4_solvePeriod_233 ?_
            refine lv_goto (tgt := 239) hx hb dX4_solvePeriod_234 (by decide) ?_
            exact (hWW _ _ _ _ _).mp (hJ239 _ _ _ _ _ _ _ _ _ hf _ _ ls hP hD hS (lv_sub hl [0, 1, 2, 3, 4, 5, 6, 7] rfl))
      have hJ189 : ∀ (n10 : Int32) (n11 : Int64) (n15 : Int32) (c_low : Nat → Int32) (c_high : Nat → Int32) (c_cost : Nat → Int64) (c_act : Nat → Int32), f_X4_solvePeriod_L62_J189 n1 n2 n3 n5 n10 n11 n15 c_terms c_low c_high c_bottom c_cost c_act = some x9 → ∀ (H : Heap) (locs : List Loc) (ls : Array Slot), va_P D vwCl [oX4 a0 a_terms a_low a_high a_bottom a_cost a_act, rI cI a_terms 10 c_terms, rI cI a_low 6 c_low, rI cI a_high 6 c_high, rJ cJ a_bottom 6 c_bottom, rJ cJ a_cost 366 c_cost, rI cI a_act 366 c_act] H → va_D A [oX4 a0 a_terms a_low a_high a_bottom a_cost a_act, rI cI a_terms 10 c_terms, rI cI a_low 6 c_low, rI cI a_high 6 c_high, rJ cJ a_bottom 6 c_bottom, rJ cJ a_cost 366 c_cost, rI cI a_act 366 c_act] → va_S A s.heap H locs → lv_has ls 16 [(0, .ref a0), (1, .int n1), (2, .int n2), (3, .long n3), (5, .long n5), (10, .int n10), (11, .long n11), (15, .int n15)] → WW H locs 0 0 (F0 m 189 ls []) := by
        intro n10 n11 n15 c_low c_high c_cost c_act hf H locs ls hP hD hS hl
        unfold f_X4_solvePeriod_L62_J189 at hf
        refine (hWW _ _ _ _ _).mpr ?_
        refine lv_lload hx hb dX4_solvePeriod_189 (lv_at hl 6 rfl) ?_
        refine lv_lload_n hx hb dX4_solvePeriod_191 rfl (lv_at hl 3 rfl) ?_
        refine lv_iload hx hb dX4_solvePeriod_192 (lv_at hl 5 rfl) ?_
        refine lv_i2l hx hb dX4_solvePeriod_194 rfl ?_
        refine lv_lmul hx hb dX4_solvePeriod_195 ?_
        refine lv_ladd hx hb dX4_solvePeriod_196 ?_
        refine lv_lstore (lv' := [(8, .long (n11 + (n3 * n10.toInt64))), (0, .ref a0), (1, .int n1), (2, .int n2), (3, .long n3), (5, .long n5), (10, .int n10), (11, .long n11), (15, .int n15)]) hx hb dX4_solvePeriod_197 hl (by decide) rfl (fun ls hl => ?_)
        refine lv_iload hx hb dX4_solvePeriod_199 (lv_at hl 6 rfl) ?_
        refine lv_istore (lv' := [(7, .int n10), (8, .long (n11 + (n3 * n10.toInt64))), (0, .ref a0), (1, .int n1), (2, .int n2), (3, .long n3), (5, .long n5), (10, .int n10), (11, .long n11), (15, .int n15)]) hx hb dX4_solvePeriod_201 hl (by decide) rfl (fun ls hl => ?_)
        exact (hWW _ _ _ _ _).mp (hJ203 _ _ _ _ _ _ _ _ hf _ _ ls hP hD hS (lv_sub hl [2, 3, 4, 5, 6, 0, 1, 7, 9] rfl))
      have hJ162 : ∀ (n7 : Int32) (n8 : Int64) (n10 : Int32) (n11 : Int64) (n15 : Int32) (t1 : Int32) (t2 : Int32) (c_low : Nat → Int32) (c_high : Nat → Int32) (c_cost : Nat → Int64) (c_act : Nat → Int32), f_X4_solvePeriod_L62_J162 n1 n2 n3 n5 n7 n8 n10 n11 n15 t1 t2 c_terms c_low c_high c_bottom c_cost c_act = some x9 → ∀ (H : Heap) (locs : List Loc) (ls : Array Slot), va_P D vwCl [oX4 a0 a_terms a_low a_high a_bottom a_cost a_act, rI cI a_terms 10 c_terms, rI cI a_low 6 c_low, rI cI a_high 6 c_high, rJ cJ a_bottom 6 c_bottom, rJ cJ a_cost 366 c_cost, rI cI a_act 366 c_act] H → va_D A [oX4 a0 a_terms a_low a_high a_bottom a_cost a_act, rI cI a_terms 10 c_terms, rI cI a_low 6 c_low, rI cI a_high 6 c_high, rJ cJ a_bottom 6 c_bottom, rJ cJ a_cost 366 c_cost, rI cI a_act 366 c_act] → va_S A s.heap H locs → lv_has ls 16 [(0, .ref a0), (1, .int n1), (2, .int n2), (3, .long n3), (5, .long n5), (7, .int n7), (8, .long n8), (10, .int n10), (11, .long n11), (15, .int n15)] → WW H locs 0 0 (F0 m 162 ls [.int t2, .int t1, .ref a_act]) := by
        intro n7 n8 n10 n11 n15 t1 t2 c_low c_high c_cost c_act hf H locs ls hP hD hS hl
        unfold f_X4_solvePeriod_L62_J162 at hf
        refine (hWW _ _ _ _ _).mpr ?_
        obtain ⟨h19, hf⟩ := ob_d hf
        refine va_iast hx hb hK hP hD hS 6 0 rfl rfl h19 dX4_solvePeriod_162 (fun H locs hP hD hS => ?_)
        have hP : va_P D vwCl [oX4 a0 a_terms a_low a_high a_bottom a_cost a_act, rI cI a_terms 10 c_terms, rI cI a_low 6 c_low, rI cI a_high 6 c_high, rJ cJ a_bottom 6 c_bottom, rJ cJ a_cost 366 c_cost, rI cI a_act 366 (upd c_act t1.toNatClampNeg t2)] H := hP
        have hD : va_D A [oX4 a0 a_terms a_low a_high a_bottom a_cost a_act, rI cI a_terms 10 c_terms, rI cI a_low 6 c_low, rI cI a_high 6 c_high, rJ cJ a_bottom 6 c_bottom, rJ cJ a_cost 366 c_cost, rI cI a_act 366 (upd c_act t1.toNatClampNeg t2)] := hD
        refine lv_iload hx hb dX4_solvePeriod_163 (lv_at hl 7 rfl) ?_
        refine lv_aload_n hx hb dX4_solvePeriod_165 rfl (lv_at hl 0 rfl) ?_
        refine va_get (D := D) (ci := 3) (v := .ref a_terms) (C := RX4) (T := TX4) (N := 6) hx hb hts (fun w h => mb (iX4 w h)) hown hK hP 0 rfl rfl 0 (by decide) (hts _ (mb tb_205)) (fun _ h9 => h9) rfl dX4_solvePeriod_166 ?_
        refine lv_bipush (v := 9) hx hb dX4_solvePeriod_169 (by decide) ?_
        obtain ⟨h20, hf⟩ := ob_d hf
        refine va_iald hx hb hK hP 1 0 rfl rfl h20 dX4_solvePeriod_171 ?_
        refine lv_icmp_eq (tgt := 189) hx hb dX4_solvePeriod_172 (by decide) (fun h21 => ?_) (fun h21 => ?_)
        · have hf := ipos h21 hf
          exact (hWW _ _ _ _ _).mp (hJ189 _ _ _ _ _ _ _ hf _ _ ls hP hD hS (lv_sub hl [0, 1, 2, 3, 4, 7, 8, 9] rfl))
        · have hf := ineg h21 hf
          refine lv_lload hx hb dX4_solvePeriod_175 (lv_at hl 8 rfl) ?_
          refine lv_lload_n hx hb dX4_solvePeriod_177 rfl (lv_at hl 3 rfl) ?_
          refine lv_iload hx hb dX4_solvePeriod_178 (lv_at hl 7 rfl) ?_
          refine lv_i2l hx hb dX4_solvePeriod_180 rfl ?_
          refine lv_lmul hx hb dX4_solvePeriod_181 ?_
          refine lv_ladd hx hb dX4_solvePeriod_182 ?_
          refine lv_lload hx hb dX4_solvePeriod_183 (lv_at hl 6 rfl) ?_
          refine W.lcmp hx hb dX4_solvePeriod_185 ?_
          refine lv_if_gt (tgt := 203) hx hb dX4_solvePeriod_186 (by decide) (fun h27 => ?_) (fun h27 => ?_)
          · have hf := ipos h27 hf
            exact (hWW _ _ _ _ _).mp (hJ203 _ _ _ _ _ _ _ _ hf _ _ ls hP hD hS (lv_sub hl [0, 1, 2, 3, 4, 5, 6, 7, 9] rfl))
          · have hf := ineg h27 hf
            exact (hWW _ _ _ _ _).mp (hJ189 _ _ _ _ _ _ _ hf _ _ ls hP hD hS (lv_sub hl [0, 1, 2, 3, 4, 7, 8, 9] rfl))
      have hJ139 : ∀ (n7 : Int32) (n8 : Int64) (n10 : Int32) (n11 : Int64) (n15 : Int32) (t1 : Int32) (t2 : Int64) (c_low : Nat → Int32) (c_high : Nat → Int32) (c_cost : Nat → Int64) (c_act : Nat → Int32), f_X4_solvePeriod_L62_J139 n1 n2 n3 n5 n7 n8 n10 n11 n15 t1 t2 c_terms c_low c_high c_bottom c_cost c_act = some x9 → ∀ (H : Heap) (locs : List Loc) (ls : Array Slot), va_P D vwCl [oX4 a0 a_terms a_low a_high a_bottom a_cost a_act, rI cI a_terms 10 c_terms, rI cI a_low 6 c_low, rI cI a_high 6 c_high, rJ cJ a_bottom 6 c_bottom, rJ cJ a_cost 366 c_cost, rI cI a_act 366 c_act] H → va_D A [oX4 a0 a_terms a_low a_high a_bottom a_cost a_act, rI cI a_terms 10 c_terms, rI cI a_low 6 c_low, rI cI a_high 6 c_high, rJ cJ a_bottom 6 c_bottom, rJ cJ a_cost 366 c_cost, rI cI a_act 366 c_act] → va_S A s.heap H locs → lv_has ls 16 [(0, .ref a0), (1, .int n1), (2, .int n2), (3, .long n3), (5, .long n5), (7, .int n7), (8, .long n8), (10, .int n10), (11, .long n11), (15, .int n15)] → WW H locs 0 0 (F0 m 139 ls [.long t2, .int t1, .ref a_cost]) := by
        intro n7 n8 n10 n11 n15 t1 t2 c_low c_high c_cost c_act hf H locs ls hP hD hS hl
        unfold f_X4_solvePeriod_L62_J139 at hf
        refine (hWW _ _ _ _ _).mpr ?_
        obtain ⟨h15, hf⟩ := ob_d hf
        refine va_last hx hb hK hP hD hS 5 1 rfl rfl h15 dX4_solvePeriod_139 (fun H locs hP hD hS => ?_)
        have hP : va_P D vwCl [oX4 a0 a_terms a_low a_high a_bottom a_cost a_act, rI cI a_terms 10 c_terms, rI cI a_low 6 c_low, rI cI a_high 6 c_high, rJ cJ a_bottom 6 c_bottom, rJ cJ a_cost 366 (vp_updL c_cost t1.toNatClampNeg t2), rI cI a_act 366 c_act] H := hP
        have hD : va_D A [oX4 a0 a_terms a_low a_high a_bottom a_cost a_act, rI cI a_terms 10 c_terms, rI cI a_low 6 c_low, rI cI a_high 6 c_high, rJ cJ a_bottom 6 c_bottom, rJ cJ a_cost 366 (vp_updL c_cost t1.toNatClampNeg t2), rI cI a_act 366 c_act] := hD
        refine lv_aload_n hx hb dX4_solvePeriod_140 rfl (lv_at hl 0 rfl) ?_
        refine va_get (D := D) (ci := 3) (v := .ref a_act) (C := RX4) (T := TX4) (N := 6) hx hb hts (fun w h => mb (iX4 w h)) hown hK hP 0 rfl rfl 5 (by decide) (hts _ (mb tb_214)) (fun _ h9 => h9) rfl dX4_solvePeriod_141 ?_
        refine lv_iload_n hx hb dX4_solvePeriod_144 rfl (lv_at hl 1 rfl) ?_
        refine lv_iload hx hb dX4_solvePeriod_145 (lv_at hl 7 rfl) ?_
        obtain ⟨r16, hc17, hf⟩ := ob1 hf
        refine ro_calli (r := r16) (va_runS (As := [.int n1, .int n10]) (rest := [.ref a_act]) ⟨hx, hb, hml, hown, hts⟩ (k_X4_cell l hl0 D cI cJ cZ cS B0 H n1 n10 r16 hc17) (va_cwS 2 hts (gS tb_940 tb_941 tb_6 tb_942) rfl rfl rfl (by decide +kernel) ⟨Nat.le_of_ble_eq_true rfl, Nat.le_of_ble_eq_true rfl⟩) ⟨rp_blind, rp_pre (hP.sub [] rfl) hK (hBn _ _ hS) (hEn _ _ hS)⟩ rfl rfl hl.1 rfl (lv_room (Nat.le_of_ble_eq_true rfl)) dX4_solvePeriod_147 ⟨Nat.le_of_ble_eq_true rfl, Nat.le_of_ble_eq_true rfl⟩) ?_
        refine lv_iload hx hb dX4_solvePeriod_150 (lv_at hl 9 rfl) ?_
        refine lv_if_eq (tgt := 160) hx hb dX4_solvePeriod_152 (by decide) (fun h18 => ?_) (fun h18 => ?_)
        · have hf := ipos h18 hf
          refine lv_iload hx hb dX4_solvePeriod_160 (lv_at hl 7 rfl) ?_
          exact (hWW _ _ _ _ _).mp (hJ162 _ _ _ _ _ _ _ _ _ _ _ hf _ _ ls hP hD hS (lv_sub hl [0, 1, 2, 3, 4, 5, 6, 7, 8, 9] rfl))
        · have hf := ineg h18 hf
          refine lv_iload hx hb dX4_solvePeriod_155 (lv_at hl 5 rfl) ?_
          refine lv_goto (tgt := 162) hx hb dX4_solvePeriod_157 (by decide) ?_
          exact (hWW _ _ _ _ _).mp (hJ162 _ _ _ _ _ _ _ _ _ _ _ hf _ _ ls hP hD hS (lv_sub hl [0, 1, 2, 3, 4, 5, 6, 7, 8, 9] rfl))
      have hJ115 : ∀ (n7 : Int32) (n8 : Int64) (n10 : Int32) (n11 : Int64) (n13 : Int64) (t0 : Int32) (c_low : Nat → Int32) (c_high : Nat → Int32) (c_cost : Nat → Int64) (c_act : Nat → Int32), f_X4_solvePeriod_L62_J115 n1 n2 n3 n5 n7 n8 n10 n11 n13 t0 c_terms c_low c_high c_bottom c_cost c_act = some x9 → ∀ (H : Heap) (locs : List Loc) (ls : Array Slot), va_P D vwCl [oX4 a0 a_terms a_low a_high a_bottom a_cost a_act, rI cI a_terms 10 c_terms, rI cI a_low 6 c_low, rI cI a_high 6 c_high, rJ cJ a_bottom 6 c_bottom, rJ cJ a_cost 366 c_cost, rI cI a_act 366 c_act] H → va_D A [oX4 a0 a_terms a_low a_high a_bottom a_cost a_act, rI cI a_terms 10 c_terms, rI cI a_low 6 c_low, rI cI a_high 6 c_high, rJ cJ a_bottom 6 c_bottom, rJ cJ a_cost 366 c_cost, rI cI a_act 366 c_act] → va_S A s.heap H locs → lv_has ls 16 [(0, .ref a0), (1, .int n1), (2, .int n2), (3, .long n3), (5, .long n5), (7, .int n7), (8, .long n8), (10, .int n10), (11, .long n11), (13, .long n13)] → WW H locs 0 0 (F0 m 115 ls [.int t0]) := by
        intro n7 n8 n10 n11 n13 t0 c_low c_high c_cost c_act hf H locs ls hP hD hS hl
        unfold f_X4_solvePeriod_L62_J115 at hf
        refine (hWW _ _ _ _ _).mpr ?_
        refine lv_istore (lv' := [(15, .int t0), (0, .ref a0), (1, .int n1), (2, .int n2), (3, .long n3), (5, .long n5), (7, .int n7), (8, .long n8), (10, .int n10), (11, .long n11), (13, .long n13)]) hx hb dX4_solvePeriod_115 hl (by decide) rfl (fun ls hl => ?_)
        refine lv_aload_n hx hb dX4_solvePeriod_117 rfl (lv_at hl 1 rfl) ?_
        refine va_get (D := D) (ci := 3) (v := .ref a_cost) (C := RX4) (T := TX4) (N := 6) hx hb hts (fun w h => mb (iX4 w h)) hown hK hP 0 rfl rfl 4 (by decide) (hts _ (mb tb_212)) (fun _ h9 => h9) rfl dX4_solvePeriod_118 ?_
        refine lv_iload_n hx hb dX4_solvePeriod_121 rfl (lv_at hl 2 rfl) ?_
        refine lv_iload hx hb dX4_solvePeriod_122 (lv_at hl 8 rfl) ?_
        obtain ⟨r12, hc13, hf⟩ := ob1 hf
        refine ro_calli (r := r12) (va_runS (As := [.int n1, .int n10]) (rest := [.ref a_cost]) ⟨hx, hb, hml, hown, hts⟩ (k_X4_cell l hl0 D cI cJ cZ cS B0 H n1 n10 r12 hc13) (va_cwS 2 hts (gS tb_940 tb_941 tb_6 tb_942) rfl rfl rfl (by decide +kernel) ⟨Nat.le_of_ble_eq_true rfl, Nat.le_of_ble_eq_true rfl⟩) ⟨rp_blind, rp_pre (hP.sub [] rfl) hK (hBn _ _ hS) (hEn _ _ hS)⟩ rfl rfl hl.1 rfl (lv_room (Nat.le_of_ble_eq_true rfl)) dX4_solvePeriod_124 ⟨Nat.le_of_ble_eq_true rfl, Nat.le_of_ble_eq_true rfl⟩) ?_
        refine lv_iload hx hb dX4_solvePeriod_127 (lv_at hl 0 rfl) ?_
        refine lv_if_eq (tgt := 137) hx hb dX4_solvePeriod_129 (by decide) (fun h14 => ?_) (fun h14 => ?_)
        · have hf := ipos h14 hf
          refine lv_lload hx hb dX4_solvePeriod_137 (lv_at hl 9 rfl) ?_
          exact (hWW _ _ _ _ _).mp (hJ139 _ _ _ _ _ _ _ _ _ _ _ hf _ _ ls hP hD hS (lv_sub hl [1, 2, 3, 4, 5, 6, 7, 8, 9, 0] rfl))
        · have hf := ineg h14 hf
          refine lv_lload hx hb dX4_solvePeriod_132 (lv_at hl 10 rfl) ?_
          refine lv_goto (tgt := 139) hx hb dX4_solvePeriod_134 (by decide) ?_
          exact (hWW _ _ _ _ _).mp (hJ139 _ _ _ _ _ _ _ _ _ _ _ hf _ _ ls hP hD hS (lv_sub hl [1, 2, 3, 4, 5, 6, 7, 8, 9, 0] rfl))
      have hJ114 : ∀ (n7 : Int32) (n8 : Int64) (n10 : Int32) (n11 : Int64) (n13 : Int64) (c_low : Nat → Int32) (c_high : Nat → Int32) (c_cost : Nat → Int64) (c_act : Nat → Int32), f_X4_solvePeriod_L62_J114 n1 n2 n3 n5 n7 n8 n10 n11 n13 c_terms c_low c_high c_bottom c_cost c_act = some x9 → ∀ (H : Heap) (locs : List Loc) (ls : Array Slot), va_P D vwCl [oX4 a0 a_terms a_low a_high a_bottom a_cost a_act, rI cI a_terms 10 c_terms, rI cI a_low 6 c_low, rI cI a_high 6 c_high, rJ cJ a_bottom 6 c_bottom, rJ cJ a_cost 366 c_cost, rI cI a_act 366 c_act] H → va_D A [oX4 a0 a_terms a_low a_high a_bottom a_cost a_act, rI cI a_terms 10 c_terms, rI cI a_low 6 c_low, rI cI a_high 6 c_high, rJ cJ a_bottom 6 c_bottom, rJ cJ a_cost 366 c_cost, rI cI a_act 366 c_act] → va_S A s.heap H locs → lv_has ls 16 [(0, .ref a0), (1, .int n1), (2, .int n2), (3, .long n3), (5, .long n5), (7, .int n7), (8, .long n8), (10, .int n10), (11, .long n11), (13, .long n13)] → WW H locs 0 0 (F0 m 114 ls []) := by
        intro n7 n8 n10 n11 n13 c_low c_high c_cost c_act hf H locs ls hP hD hS hl
        unfold f_X4_solvePeriod_L62_J114 at hf
        refine (hWW _ _ _ _ _).mpr ?_
        refine lv_iconst (v := 0) hx hb dX4_solvePeriod_114 (by decide) ?_
        exact (hWW _ _ _ _ _).mp (hJ115 _ _ _ _ _ _ _ _ _ _ hf _ _ ls hP hD hS (lv_sub hl [0, 1, 2, 3, 4, 5, 6, 7, 8, 9] rfl))
      refine (hWW _ _ _ _ _).mpr ?_
      refine lv_iload hx hb dX4_solvePeriod_62 (lv_at hl 7 rfl) ?_
      refine lv_iload_n hx hb dX4_solvePeriod_64 rfl (lv_at hl 2 rfl) ?_
      refine lv_icmp_lt (tgt := 246) hx hb dX4_solvePeriod_65 (by decide) (fun h7 => ?_) (fun h7 => ?_)
      · have hf := ipos h7 hf
        obtain rfl := Option.some.inj hf
        cases lpx_r hlp
        exact (hWW _ _ _ _ _).mp (K _ _ ls hP hD hS (lv_sub hl [] rfl))
      · have hf := ineg h7 hf
        refine lv_aload_n hx hb dX4_solvePeriod_68 rfl (lv_at hl 0 rfl) ?_
        refine lv_iload_n hx hb dX4_solvePeriod_69 rfl (lv_at hl 1 rfl) ?_
        refine lv_iload hx hb dX4_solvePeriod_70 (lv_at hl 7 rfl) ?_
        obtain ⟨r8, hc9, hf⟩ := ob1 hf
        refine ro_calll (r := r8) (va_runV (As := [.int n1, .int n10]) (rest := []) ⟨hx, hb, hml, hown, hts⟩ (k_X4_stayCost l hl0 D cI cJ cZ cS B0 H a0 a_terms a_low a_high a_bottom a_cost a_act c_terms c_bottom c_cost n1 n10 r8 hc9) (cwV 2 hts (gV tb_936 tb_938 ts_38 tb_6 tb_939) rfl rfl rfl (by decide +kernel) ⟨Nat.le_of_ble_eq_true rfl, Nat.le_of_ble_eq_true rfl⟩) ⟨rp_blind, va_recv hK hP (ci := 3) (q0 := 0) rfl rfl, rp_pre (hP.sub [0, 1, 4, 5] rfl) hK (hBn _ _ hS) (hEn _ _ hS)⟩ rfl rfl hl.1 rfl (lv_room (Nat.le_of_ble_eq_true rfl)) dX4_solvePeriod_72 ⟨Nat.le_of_ble_eq_true rfl, Nat.le_of_ble_eq_true rfl⟩) ?_
        refine lv_lstore (lv' := [(11, .long r8), (0, .ref a0), (1, .int n1), (2, .int n2), (3, .long n3), (5, .long n5), (7, .int n7), (8, .long n8), (10, .int n10)]) hx hb dX4_solvePeriod_75 hl (by decide) rfl (fun ls hl => ?_)
        refine lv_lload hx hb dX4_solvePeriod_77 (lv_at hl 5 rfl) ?_
        refine lv_lload hx hb dX4_solvePeriod_79 (lv_at hl 7 rfl) ?_
        refine lv_ladd hx hb dX4_solvePeriod_81 ?_
        refine lv_lload_n hx hb dX4_solvePeriod_82 rfl (lv_at hl 4 rfl) ?_
        refine lv_iload hx hb dX4_solvePeriod_83 (lv_at hl 8 rfl) ?_
        refine lv_i2l hx hb dX4_solvePeriod_85 rfl ?_
        refine lv_lmul hx hb dX4_solvePeriod_86 ?_
        refine lv_lsub hx hb dX4_solvePeriod_87 ?_
        refine lv_lstore (lv' := [(13, .long ((n5 + n8) - (n3 * n10.toInt64))), (11, .long r8), (0, .ref a0), (1, .int n1), (2, .int n2), (3, .long n3), (5, .long n5), (7, .int n7), (8, .long n8), (10, .int n10)]) hx hb dX4_solvePeriod_88 hl (by decide) rfl (fun ls hl => ?_)
        refine lv_iload hx hb dX4_solvePeriod_90 (lv_at hl 9 rfl) ?_
        refine lv_aload_n hx hb dX4_solvePeriod_92 rfl (lv_at hl 2 rfl) ?_
        refine va_get (D := D) (ci := 3) (v := .ref a_terms) (C := RX4) (T := TX4) (N := 6) hx hb hts (fun w h => mb (iX4 w h)) hown hK hP 0 rfl rfl 0 (by decide) (hts _ (mb tb_205)) (fun _ h9 => h9) rfl dX4_solvePeriod_93 ?_
        refine lv_bipush (v := 9) hx hb dX4_solvePeriod_96 (by decide) ?_
        obtain ⟨h10, hf⟩ := ob_d hf
        refine va_iald hx hb hK hP 1 0 rfl rfl h10 dX4_solvePeriod_98 ?_
        refine lv_icmp_ge (tgt := 114) hx hb dX4_solvePeriod_99 (by decide) (fun h11 => ?_) (fun h11 => ?_)
        · have hf := ipos h11 hf
          exact (hWW _ _ _ _ _).mp (hJ114 _ _ _ _ _ _ _ _ _ hf _ _ ls hP hD hS (lv_sub hl [2, 3, 4, 5, 6, 7, 8, 9, 1, 0] rfl))
        · have hf := ineg h11 hf
          refine lv_lload hx hb dX4_solvePeriod_102 (lv_at hl 0 rfl) ?_
          refine lv_lload hx hb dX4_solvePeriod_104 (lv_at hl 1 rfl) ?_
          refine W.lcmp hx hb dX4_solvePeriod_106 ?_
          refine lv_if_ge (tgt := 114) hx hb dX4_solvePeriod_107 (by decide) (fun h28 => ?_) (fun h28 => ?_)
          · have hf := ipos h28 hf
            exact (hWW _ _ _ _ _).mp (hJ114 _ _ _ _ _ _ _ _ _ hf _ _ ls hP hD hS (lv_sub hl [2, 3, 4, 5, 6, 7, 8, 9, 1, 0] rfl))
          · have hf := ineg h28 hf
            refine lv_iconst (v := 1) hx hb dX4_solvePeriod_110 (by decide) ?_
            refine lv_goto (tgt := 115) hx hb dX4_solvePeriod_111 (by decide) ?_
            exact (hWW _ _ _ _ _).mp (hJ115 _ _ _ _ _ _ _ _ _ _ hf _ _ ls hP hD hS (lv_sub hl [2, 3, 4, 5, 6, 7, 8, 9, 1, 0] rfl))
  refine (hWW _ _ _ _ _).mpr ?_
  refine lv_bipush (v := (-20)) hx hb dX4_solvePeriod_0 (by decide) ?_
  refine lv_iconst (v := 4) hx hb dX4_solvePeriod_2 (by decide) ?_
  refine lv_iconst (v := 5) hx hb dX4_solvePeriod_3 (by decide) ?_
  refine lv_iload_n hx hb dX4_solvePeriod_4 rfl (lv_at hl 1 rfl) ?_
  refine lv_isub hx hb dX4_solvePeriod_5 ?_
  refine lv_imul hx hb dX4_solvePeriod_6 ?_
  refine lv_isub hx hb dX4_solvePeriod_7 ?_
  refine lv_istore_n (lv' := [(2, .int ((-20) - (4 * (5 - v1)))), (0, .ref a0), (1, .int v1)]) hx hb dX4_solvePeriod_8 rfl hl (by decide) rfl (fun ls hl => ?_)
  refine lv_aload_n hx hb dX4_solvePeriod_9 rfl (lv_at hl 1 rfl) ?_
  refine va_get (D := D) (ci := 3) (v := .ref a_terms) (C := RX4) (T := TX4) (N := 6) hx hb hts (fun w h => mb (iX4 w h)) hown hK hP 0 rfl rfl 0 (by decide) (hts _ (mb tb_205)) (fun _ h9 => h9) rfl dX4_solvePeriod_10 ?_
  refine lv_bipush (v := 6) hx hb dX4_solvePeriod_13 (by decide) ?_
  obtain ⟨h1, hf⟩ := ob_d hf
  refine va_iald hx hb hK hP 1 0 rfl rfl h1 dX4_solvePeriod_15 ?_
  refine lv_i2l hx hb dX4_solvePeriod_16 rfl ?_
  refine lv_aload_n hx hb dX4_solvePeriod_17 rfl (lv_at hl 1 rfl) ?_
  refine va_get (D := D) (ci := 3) (v := .ref a_bottom) (C := RX4) (T := TX4) (N := 6) hx hb hts (fun w h => mb (iX4 w h)) hown hK hP 0 rfl rfl 3 (by decide) (hts _ (mb tb_210)) (fun _ h9 => h9) rfl dX4_solvePeriod_18 ?_
  refine lv_iload_n hx hb dX4_solvePeriod_21 rfl (lv_at hl 2 rfl) ?_
  obtain ⟨h2, hf⟩ := ob_d hf
  refine va_lald hx hb hK hP 4 1 rfl rfl h2 dX4_solvePeriod_22 ?_
  refine lv_lmul hx hb dX4_solvePeriod_23 ?_
  refine lv_lstore_n (lv' := [(3, .long (((c_terms (6 : Int32).toNatClampNeg).toInt64) * (c_bottom v1.toNatClampNeg))), (2, .int ((-20) - (4 * (5 - v1)))), (0, .ref a0), (1, .int v1)]) hx hb dX4_solvePeriod_24 rfl hl (by decide) rfl (fun ls hl => ?_)
  refine lv_aload_n hx hb dX4_solvePeriod_25 rfl (lv_at hl 2 rfl) ?_
  refine va_get (D := D) (ci := 3) (v := .ref a_terms) (C := RX4) (T := TX4) (N := 6) hx hb hts (fun w h => mb (iX4 w h)) hown hK hP 0 rfl rfl 0 (by decide) (hts _ (mb tb_205)) (fun _ h9 => h9) rfl dX4_solvePeriod_26 ?_
  refine lv_iconst (v := 5) hx hb dX4_solvePeriod_29 (by decide) ?_
  obtain ⟨h3, hf⟩ := ob_d hf
  refine va_iald hx hb hK hP 1 0 rfl rfl h3 dX4_solvePeriod_30 ?_
  refine lv_i2l hx hb dX4_solvePeriod_31 rfl ?_
  refine lv_aload_n hx hb dX4_solvePeriod_32 rfl (lv_at hl 2 rfl) ?_
  refine va_get (D := D) (ci := 3) (v := .ref a_bottom) (C := RX4) (T := TX4) (N := 6) hx hb hts (fun w h => mb (iX4 w h)) hown hK hP 0 rfl rfl 3 (by decide) (hts _ (mb tb_210)) (fun _ h9 => h9) rfl dX4_solvePeriod_33 ?_
  refine lv_iload_n hx hb dX4_solvePeriod_36 rfl (lv_at hl 3 rfl) ?_
  obtain ⟨h4, hf⟩ := ob_d hf
  refine va_lald hx hb hK hP 4 1 rfl rfl h4 dX4_solvePeriod_37 ?_
  refine lv_lmul hx hb dX4_solvePeriod_38 ?_
  refine lv_lstore (lv' := [(5, .long (((c_terms (5 : Int32).toNatClampNeg).toInt64) * (c_bottom v1.toNatClampNeg))), (3, .long (((c_terms (6 : Int32).toNatClampNeg).toInt64) * (c_bottom v1.toNatClampNeg))), (2, .int ((-20) - (4 * (5 - v1)))), (0, .ref a0), (1, .int v1)]) hx hb dX4_solvePeriod_39 hl (by decide) rfl (fun ls hl => ?_)
  refine lv_aload_n hx hb dX4_solvePeriod_41 rfl (lv_at hl 3 rfl) ?_
  refine va_get (D := D) (ci := 3) (v := .ref a_terms) (C := RX4) (T := TX4) (N := 6) hx hb hts (fun w h => mb (iX4 w h)) hown hK hP 0 rfl rfl 0 (by decide) (hts _ (mb tb_205)) (fun _ h9 => h9) rfl dX4_solvePeriod_42 ?_
  refine lv_bipush (v := 9) hx hb dX4_solvePeriod_45 (by decide) ?_
  obtain ⟨h5, hf⟩ := ob_d hf
  refine va_iald hx hb hK hP 1 0 rfl rfl h5 dX4_solvePeriod_47 ?_
  refine lv_istore (lv' := [(7, .int (c_terms (9 : Int32).toNatClampNeg)), (5, .long (((c_terms (5 : Int32).toNatClampNeg).toInt64) * (c_bottom v1.toNatClampNeg))), (3, .long (((c_terms (6 : Int32).toNatClampNeg).toInt64) * (c_bottom v1.toNatClampNeg))), (2, .int ((-20) - (4 * (5 - v1)))), (0, .ref a0), (1, .int v1)]) hx hb dX4_solvePeriod_48 hl (by decide) rfl (fun ls hl => ?_)
  refine lv_lconst (v := 0) hx hb dX4_solvePeriod_50 (by decide) ?_
  refine lv_lstore (lv' := [(8, .long 0), (7, .int (c_terms (9 : Int32).toNatClampNeg)), (5, .long (((c_terms (5 : Int32).toNatClampNeg).toInt64) * (c_bottom v1.toNatClampNeg))), (3, .long (((c_terms (6 : Int32).toNatClampNeg).toInt64) * (c_bottom v1.toNatClampNeg))), (2, .int ((-20) - (4 * (5 - v1)))), (0, .ref a0), (1, .int v1)]) hx hb dX4_solvePeriod_51 hl (by decide) rfl (fun ls hl => ?_)
  refine lv_aload_n hx hb dX4_solvePeriod_53 rfl (lv_at hl 5 rfl) ?_
  refine va_get (D := D) (ci := 3) (v := .ref a_terms) (C := RX4) (T := TX4) (N := 6) hx hb hts (fun w h => mb (iX4 w h)) hown hK hP 0 rfl rfl 0 (by decide) (hts _ (mb tb_205)) (fun _ h9 => h9) rfl dX4_solvePeriod_54 ?_
  refine lv_bipush (v := 9) hx hb dX4_solvePeriod_57 (by decide) ?_
  obtain ⟨h6, hf⟩ := ob_d hf
  refine va_iald hx hb hK hP 1 0 rfl rfl h6 dX4_solvePeriod_59 ?_
  refine lv_istore (lv' := [(10, .int (c_terms (9 : Int32).toNatClampNeg)), (8, .long 0), (7, .int (c_terms (9 : Int32).toNatClampNeg)), (5, .long (((c_terms (5 : Int32).toNatClampNeg).toInt64) * (c_bottom v1.toNatClampNeg))), (3, .long (((c_terms (6 : Int32).toNatClampNeg).toInt64) * (c_bottom v1.toNatClampNeg))), (2, .int ((-20) - (4 * (5 - v1)))), (0, .ref a0), (1, .int v1)]) hx hb dX4_solvePeriod_60 hl (by decide) rfl (fun ls hl => ?_)
  obtain ⟨c30, c31, c32, c33, hc29, hf⟩ := ob4 hf
  refine (hWW _ _ _ _ _).mp (hL62 fu _ _ _ _ _ _ _ _ _ _ _ _ _ _ _ hc29 (fun H locs ls hP hD hS hl => ?_) _ _ ls hP hD hS (lv_sub hl [6, 7, 5, 4, 3, 2, 1, 0] rfl))
  · refine (hWW _ _ _ _ _).mpr ?_
    cases hf
    refine W.widen (k := 0) (n := 0) (Nat.le_of_ble_eq_true rfl) (Nat.le_of_ble_eq_true rfl) ?_
    exact W.vret hx hb hr (fun t ht hW => ⟨⟨(), rfl, trivial, (by show va_P D vwCl _ t.heap; rw [ht]; exact hP)⟩, hS.F ht⟩) hS.2.2 dX4_solvePeriod_246
def f_X4_solve_L13 (c_terms : Nat → Int32) (c_low : Nat → Int32) (c_high : Nat → Int32) (c_bottom : Nat → Int64) (c_cost : Nat → Int64) (c_act : Nat → Int32) (cp1 : Nat → Int32) (n2 : Int32) (n3 : Int32) : Option ((Int32 × Int32) ⊕ Int32) :=
  (if 5 ≤ n3 then some (.inr n2)
  else gd n3 10 (some (.inl (n2 + (c_terms n3.toNatClampNeg), n3 + 1))))
def f_X4_solve_L42 (n2 : Int32) (c_terms : Nat → Int32) (cp1 : Nat → Int32) (n3 : Int32) (c_low : Nat → Int32) (c_high : Nat → Int32) (c_bottom : Nat → Int64) (c_cost : Nat → Int64) (c_act : Nat → Int32) : Option ((Int32 × (Nat → Int32) × (Nat → Int32) × (Nat → Int64) × (Nat → Int64) × (Nat → Int32)) ⊕ ((Nat → Int32) × (Nat → Int32) × (Nat → Int64) × (Nat → Int64) × (Nat → Int32))) :=
  (if 5 < n3 then some (.inr (c_low, c_high, c_bottom, c_cost, c_act))
  else gd (n3 - 1) 6 (gd n3 6 (bnd4 (f_X4_solvePeriod n3 c_terms c_low c_high (vp_updL c_bottom n3.toNatClampNeg ((c_bottom (n3 - 1).toNatClampNeg) * n2.toInt64)) c_cost c_act) (fun o15 o16 o17 o18 =>
  (some (.inl (n3 + 1, o15, o16, vp_updL c_bottom n3.toNatClampNeg ((c_bottom (n3 - 1).toNatClampNeg) * n2.toInt64), o17, o18)))))))
def f_X4_solve (c_terms : Nat → Int32) (c_low : Nat → Int32) (c_high : Nat → Int32) (c_bottom : Nat → Int64) (c_cost : Nat → Int64) (c_act : Nat → Int32) (cp1 : Nat → Int32) : Option ((Nat → Int32) × (Nat → Int32) × (Nat → Int32) × (Nat → Int64) × (Nat → Int64) × (Nat → Int32)) :=
  bnd2 (f_X4_takeTerms c_terms cp1) (fun r1 o3 =>
  ((if r1 = 0 then some (o3, c_low, c_high, c_bottom, c_cost, c_act)
  else (bnd1 (loop (fun z => f_X4_solve_L13 o3 c_low c_high c_bottom c_cost c_act cp1 z.1 z.2) fu (0, 0)) fun m8 =>
  gd 0 6 ((bnd5 (loop (fun z => f_X4_solve_L42 m8 o3 cp1 z.1 z.2.1 z.2.2.1 z.2.2.2.1 z.2.2.2.2.1 z.2.2.2.2.2) fu (1, c_low, c_high, vp_updL c_bottom (0 : Int32).toNatClampNeg 1, c_cost, c_act)) fun c20 c21 c22 c23 c24 =>
  some (o3, c20, c21, c22, c23, c24)))))))
set_option maxHeartbeats 4000000 in
set_option maxRecDepth 100000 in
theorem k_X4_solve (l : Launch) (hl0 : l.stackTraces = false) (D : va_G) (cI cJ cZ cS : ClassId) (B0 : Nat) (sz : Nat) (a0 a_terms a_low a_high a_bottom a_cost a_act ap1 : Nat) (c_terms : Nat → Int32) (c_low : Nat → Int32) (c_high : Nat → Int32) (c_bottom : Nat → Int64) (c_cost : Nat → Int64) (c_act : Nat → Int32) (cp1 : Nat → Int32) (oc_terms : Nat → Int32) (oc_low : Nat → Int32) (oc_high : Nat → Int32) (oc_bottom : Nat → Int64) (oc_cost : Nat → Int64) (oc_act : Nat → Int32)  (hf : f_X4_solve c_terms c_low c_high c_bottom c_cost c_act cp1 = some (oc_terms, oc_low, oc_high, oc_bottom, oc_cost, oc_act)) : Met l yX4_solve (wz yX4_solve cX4_solve 4 none) ({ frames := 4, cells := 0, slots := 0, locals := 125 }) (va_Pc [.ref a0, .ref ap1] (wp D cI cJ cZ cS B0 [oX4 a0 a_terms a_low a_high a_bottom a_cost a_act, rI cI a_terms 10 c_terms, rI cI a_low 6 c_low, rI cI a_high 6 c_high, rJ cJ a_bottom 6 c_bottom, rJ cJ a_cost 366 c_cost, rI cI a_act 366 c_act, rI cI ap1 10 cp1] sz)) (va_Qv (fun (_ : Unit) => True) (fun _ t => va_P D vwCl [oX4 a0 a_terms a_low a_high a_bottom a_cost a_act, rI cI a_terms 10 oc_terms, rI cI a_low 6 oc_low, rI cI a_high 6 oc_high, rJ cJ a_bottom 6 oc_bottom, rJ cJ a_cost 366 oc_cost, rI cI a_act 366 oc_act, rI cI ap1 10 cp1] t.heap) (va_A [oX4 a0 a_terms a_low a_high a_bottom a_cost a_act, rI cI a_terms 10 c_terms, rI cI a_low 6 c_low, rI cI a_high 6 c_high, rJ cJ a_bottom 6 c_bottom, rJ cJ a_cost 366 c_cost, rI cI a_act 366 c_act, rI cI ap1 10 cp1] sz)) 0 0 (va_A [oX4 a0 a_terms a_low a_high a_bottom a_cost a_act, rI cI a_terms 10 c_terms, rI cI a_low 6 c_low, rI cI a_high 6 c_high, rJ cJ a_bottom 6 c_bottom, rJ cJ a_cost 366 c_cost, rI cI a_act 366 c_act, rI cI ap1 10 cp1] sz) := by
  refine Met.ofW (cc := cX4_solve) (maxL := 4) (ret := none) (by decide) rfl ?_
  intro p e s m args below meth c s₁ B hml hv
  obtain ⟨rfl, hsz, hP, hK, hD0, hB0, hE⟩ := hv
  subst hsz
  have hx := B.exec
  have hb := B.bytes
  have hr := B.returns
  have hts := atoms_spec (ws := (wz yX4_solve cX4_solve 4 none)) B.pre
  have hown : s.vm.findClass RX4 = some m.cls := findClass_of_methodNamed B.named
  have hlocks := B.notSynchronized
  have hD := hD0.self (sz := s.heap.size)
  have hAB : ∀ q : Nat, va_A [oX4 a0 a_terms a_low a_high a_bottom a_cost a_act, rI cI a_terms 10 c_terms, rI cI a_low 6 c_low, rI cI a_high 6 c_high, rJ cJ a_bottom 6 c_bottom, rJ cJ a_cost 366 c_cost, rI cI a_act 366 c_act, rI cI ap1 10 cp1] s.heap.size q → B0 ≤ q := va_A_B hD0 hB0
  generalize hAe : va_A [oX4 a0 a_terms a_low a_high a_bottom a_cost a_act, rI cI a_terms 10 c_terms, rI cI a_low 6 c_low, rI cI a_high 6 c_high, rJ cJ a_bottom 6 c_bottom, rJ cJ a_cost 366 c_cost, rI cI a_act 366 c_act, rI cI ap1 10 cp1] s.heap.size = A at hD hAB ⊢
  have hA : ∀ q : Nat, s.heap.size ≤ q → A q := fun q h => by rw [← hAe]; exact Or.inr h
  have hFa := hA
  have hS : va_S A s.heap s.heap [] := va_S.rf
  have hBn := fun (H : Heap) (locs : List Loc) (h : va_S A s.heap H locs) => Nat.le_trans hB0 h.1
  have hEn := fun (H : Heap) (locs : List Loc) (h : va_S A s.heap H locs) => gE_now hE h hAB
  have hl := lv_entry ([.ref a0, .ref ap1]) (n := 4) (Nat.le_of_ble_eq_true rfl)
  rw [lg_entry_eq]
  generalize (lg_sl ([.ref a0, .ref ap1]) ++ List.replicate (4 - (lg_sl ([.ref a0, .ref ap1])).length) Slot.unset).toArray = ls at hl ⊢
  have hl : lv_has ls 4 [(0, .ref a0), (1, .ref ap1)] := hl
  obtain ⟨H, hHe⟩ : ∃ H : Heap, H = s.heap := ⟨_, rfl⟩
  have hP : va_P D vwCl [oX4 a0 a_terms a_low a_high a_bottom a_cost a_act, rI cI a_terms 10 c_terms, rI cI a_low 6 c_low, rI cI a_high 6 c_high, rJ cJ a_bottom 6 c_bottom, rJ cJ a_cost 366 c_cost, rI cI a_act 366 c_act, rI cI ap1 10 cp1] H := by rw [hHe]; exact hP
  have hS : va_S A s.heap H [] := by rw [hHe]; exact hS
  refine W_heq hHe ?_
  unfold f_X4_solve at hf
  refine gen_goW (fun WW hWW => ?_)
  have hL13 : ∀ (n : Nat) (c_terms : Nat → Int32) (c_low : Nat → Int32) (c_high : Nat → Int32) (c_bottom : Nat → Int64) (c_cost : Nat → Int64) (c_act : Nat → Int32) (n2 : Int32) (n3 : Int32) (e2 : Int32), loop (fun z => f_X4_solve_L13 c_terms c_low c_high c_bottom c_cost c_act cp1 z.1 z.2) n (n2, n3) = some e2 → (∀ (H : Heap) (locs : List Loc) (ls : Array Slot), va_P D vwCl [oX4 a0 a_terms a_low a_high a_bottom a_cost a_act, rI cI a_terms 10 c_terms, rI cI a_low 6 c_low, rI cI a_high 6 c_high, rJ cJ a_bottom 6 c_bottom, rJ cJ a_cost 366 c_cost, rI cI a_act 366 c_act, rI cI ap1 10 cp1] H → va_D A [oX4 a0 a_terms a_low a_high a_bottom a_cost a_act, rI cI a_terms 10 c_terms, rI cI a_low 6 c_low, rI cI a_high 6 c_high, rJ cJ a_bottom 6 c_bottom, rJ cJ a_cost 366 c_cost, rI cI a_act 366 c_act, rI cI ap1 10 cp1] → va_S A s.heap H locs → lv_has ls 4 [(0, .ref a0), (2, .int e2)] → WW H locs 0 0 (F0 m 33 ls [])) → ∀ (H : Heap) (locs : List Loc) (ls : Array Slot), va_P D vwCl [oX4 a0 a_terms a_low a_high a_bottom a_cost a_act, rI cI a_terms 10 c_terms, rI cI a_low 6 c_low, rI cI a_high 6 c_high, rJ cJ a_bottom 6 c_bottom, rJ cJ a_cost 366 c_cost, rI cI a_act 366 c_act, rI cI ap1 10 cp1] H → va_D A [oX4 a0 a_terms a_low a_high a_bottom a_cost a_act, rI cI a_terms 10 c_terms, rI cI a_low 6 c_low, rI cI a_high 6 c_high, rJ cJ a_bottom 6 c_bottom, rJ cJ a_cost 366 c_cost, rI cI a_act 366 c_act, rI cI ap1 10 cp1] → va_S A s.heap H locs → lv_has ls 4 [(0, .ref a0), (2, .int n2), (3, .int n3)] → WW H locs 0 0 (F0 m 13 ls []) := by
    intro n
    induction n with
    | zero =>
      intro c_terms c_low c_high c_bottom c_cost c_act n2 n3 e2 hlp
      exact absurd hlp (by simp [loop])
    | succ n ih =>
      intro c_terms c_low c_high c_bottom c_cost c_act n2 n3 e2 hlp K H locs ls hP hD hS hl
      obtain ⟨x9, hf, hlp⟩ := loop_s hlp
      have hf : f_X4_solve_L13 c_terms c_low c_high c_bottom c_cost c_act cp1 n2 n3 = some x9 := hf
      unfold f_X4_solve_L13 at hf
      refine (hWW _ _ _ _ _).mpr ?_
      refine lv_iload_n hx hb dX4_solve_13 rfl (lv_at hl 2 rfl) ?_
      refine lv_iconst (v := 5) hx hb dX4_solve_14 (by decide) ?_
      refine lv_icmp_ge (tgt := 33) hx hb dX4_solve_15 (by decide) (fun h5 => ?_) (fun h5 => ?_)
      · have hf := ipos h5 hf
        obtain rfl := Option.some.inj hf
        cases lpx_r hlp
        exact (hWW _ _ _ _ _).mp (K _ _ ls hP hD hS (lv_sub hl [0, 1] rfl))
      · have hf := ineg h5 hf
        refine lv_iload_n hx hb dX4_solve_18 rfl (lv_at hl 1 rfl) ?_
        refine lv_aload_n hx hb dX4_solve_19 rfl (lv_at hl 0 rfl) ?_
        refine va_get (D := D) (ci := 3) (v := .ref a_terms) (C := RX4) (T := TX4) (N := 6) hx hb hts (fun w h => mb (iX4 w h)) hown hK hP 0 rfl rfl 0 (by decide) (hts _ (mb tb_205)) (fun _ h9 => h9) rfl dX4_solve_20 ?_
        refine lv_iload_n hx hb dX4_solve_23 rfl (lv_at hl 2 rfl) ?_
        obtain ⟨h6, hf⟩ := ob_d hf
        refine va_iald hx hb hK hP 1 0 rfl rfl h6 dX4_solve_24 ?_
        refine lv_iadd hx hb dX4_solve_25 ?_
        refine lv_istore_n (lv' := [(2, .int (n2 + (c_terms n3.toNatClampNeg))), (0, .ref a0), (3, .int n3)]) hx hb dX4_solve_26 rfl hl (by decide) rfl (fun ls hl => ?_)
        refine lv_iinc (v := (n3 + 1)) (lv' := [(3, .int (n3 + 1)), (2, .int (n2 + (c_terms n3.toNatClampNeg))), (0, .ref a0)]) hx hb dX4_solve_27 hl (k := 2) rfl rfl (by decide) rfl (fun ls hl => ?_)
        refine lv_goto (tgt := 13) hx hb dX4_solve_30 (by decide) ?_
        obtain rfl := Option.some.inj hf
        exact (hWW _ _ _ _ _).mp (ih _ _ _ _ _ _ _ _ _ hlp K _ _ ls hP hD hS (lv_sub hl [2, 1, 0] rfl))
  have hL42 : ∀ (n : Nat) (n2 : Int32) (c_terms : Nat → Int32) (n3 : Int32) (c_low : Nat → Int32) (c_high : Nat → Int32) (c_bottom : Nat → Int64) (c_cost : Nat → Int64) (c_act : Nat → Int32) (e_c_low : Nat → Int32) (e_c_high : Nat → Int32) (e_c_bottom : Nat → Int64) (e_c_cost : Nat → Int64) (e_c_act : Nat → Int32), loop (fun z => f_X4_solve_L42 n2 c_terms cp1 z.1 z.2.1 z.2.2.1 z.2.2.2.1 z.2.2.2.2.1 z.2.2.2.2.2) n (n3, c_low, c_high, c_bottom, c_cost, c_act) = some (e_c_low, e_c_high, e_c_bottom, e_c_cost, e_c_act) → (∀ (H : Heap) (locs : List Loc) (ls : Array Slot), va_P D vwCl [oX4 a0 a_terms a_low a_high a_bottom a_cost a_act, rI cI a_terms 10 c_terms, rI cI a_low 6 e_c_low, rI cI a_high 6 e_c_high, rJ cJ a_bottom 6 e_c_bottom, rJ cJ a_cost 366 e_c_cost, rI cI a_act 366 e_c_act, rI cI ap1 10 cp1] H → va_D A [oX4 a0 a_terms a_low a_high a_bottom a_cost a_act, rI cI a_terms 10 c_terms, rI cI a_low 6 e_c_low, rI cI a_high 6 e_c_high, rJ cJ a_bottom 6 e_c_bottom, rJ cJ a_cost 366 e_c_cost, rI cI a_act 366 e_c_act, rI cI ap1 10 cp1] → va_S A s.heap H locs → lv_has ls 4 [] → WW H locs 0 0 (F0 m 75 ls [])) → ∀ (H : Heap) (locs : List Loc) (ls : Array Slot), va_P D vwCl [oX4 a0 a_terms a_low a_high a_bottom a_cost a_act, rI cI a_terms 10 c_terms, rI cI a_low 6 c_low, rI cI a_high 6 c_high, rJ cJ a_bottom 6 c_bottom, rJ cJ a_cost 366 c_cost, rI cI a_act 366 c_act, rI cI ap1 10 cp1] H → va_D A [oX4 a0 a_terms a_low a_high a_bottom a_cost a_act, rI cI a_terms 10 c_terms, rI cI a_low 6 c_low, rI cI a_high 6 c_high, rJ cJ a_bottom 6 c_bottom, rJ cJ a_cost 366 c_cost, rI cI a_act 366 c_act, rI cI ap1 10 cp1] → va_S A s.heap H locs → lv_has ls 4 [(0, .ref a0), (2, .int n2), (3, .int n3)] → WW H locs 0 0 (F0 m 42 ls []) := by
    intro n
    induction n with
    | zero =>
      intro n2 c_terms n3 c_low c_high c_bottom c_cost c_act e_c_low e_c_high e_c_bottom e_c_cost e_c_act hlp
      exact absurd hlp (by simp [loop])
    | succ n ih =>
      intro n2 c_terms n3 c_low c_high c_bottom c_cost c_act e_c_low e_c_high e_c_bottom e_c_cost e_c_act hlp K H locs ls hP hD hS hl
      obtain ⟨x9, hf, hlp⟩ := loop_s hlp
      have hf : f_X4_solve_L42 n2 c_terms cp1 n3 c_low c_high c_bottom c_cost c_act = some x9 := hf
      unfold f_X4_solve_L42 at hf
      refine (hWW _ _ _ _ _).mpr ?_
      refine lv_iload_n hx hb dX4_solve_42 rfl (lv_at hl 2 rfl) ?_
      refine lv_iconst (v := 5) hx hb dX4_solve_43 (by decide) ?_
      refine lv_icmp_gt (tgt := 75) hx hb dX4_solve_44 (by decide) (fun h10 => ?_) (fun h10 => ?_)
      · have hf := ipos h10 hf
        obtain rfl := Option.some.inj hf
        cases lpx_r hlp
        exact (hWW _ _ _ _ _).mp (K _ _ ls hP hD hS (lv_sub hl [] rfl))
      · have hf := ineg h10 hf
        refine lv_aload_n hx hb dX4_solve_47 rfl (lv_at hl 0 rfl) ?_
        refine va_get (D := D) (ci := 3) (v := .ref a_bottom) (C := RX4) (T := TX4) (N := 6) hx hb hts (fun w h => mb (iX4 w h)) hown hK hP 0 rfl rfl 3 (by decide) (hts _ (mb tb_210)) (fun _ h9 => h9) rfl dX4_solve_48 ?_
        refine lv_iload_n hx hb dX4_solve_51 rfl (lv_at hl 2 rfl) ?_
        refine lv_aload_n hx hb dX4_solve_52 rfl (lv_at hl 0 rfl) ?_
        refine va_get (D := D) (ci := 3) (v := .ref a_bottom) (C := RX4) (T := TX4) (N := 6) hx hb hts (fun w h => mb (iX4 w h)) hown hK hP 0 rfl rfl 3 (by decide) (hts _ (mb tb_210)) (fun _ h9 => h9) rfl dX4_solve_53 ?_
        refine lv_iload_n hx hb dX4_solve_56 rfl (lv_at hl 2 rfl) ?_
        refine lv_iconst (v := 1) hx hb dX4_solve_57 (by decide) ?_
        refine lv_isub hx hb dX4_solve_58 ?_
        obtain ⟨h11, hf⟩ := ob_d hf
        refine va_lald hx hb hK hP 4 1 rfl rfl h11 dX4_solve_59 ?_
        refine lv_iload_n hx hb dX4_solve_60 rfl (lv_at hl 1 rfl) ?_
        refine lv_i2l hx hb dX4_solve_61 rfl ?_
        refine lv_lmul hx hb dX4_solve_62 ?_
        obtain ⟨h12, hf⟩ := ob_d hf
        refine va_last hx hb hK hP hD hS 4 1 rfl rfl h12 dX4_solve_63 (fun H locs hP hD hS => ?_)
        have hP : va_P D vwCl [oX4 a0 a_terms a_low a_high a_bottom a_cost a_act, rI cI a_terms 10 c_terms, rI cI a_low 6 c_low, rI cI a_high 6 c_high, rJ cJ a_bottom 6 (vp_updL c_bottom n3.toNatClampNeg ((c_bottom (n3 - 1).toNatClampNeg) * n2.toInt64)), rJ cJ a_cost 366 c_cost, rI cI a_act 366 c_act, rI cI ap1 10 cp1] H := hP
        have hD : va_D A [oX4 a0 a_terms a_low a_high a_bottom a_cost a_act, rI cI a_terms 10 c_terms, rI cI a_low 6 c_low, rI cI a_high 6 c_high, rJ cJ a_bottom 6 (vp_updL c_bottom n3.toNatClampNeg ((c_bottom (n3 - 1).toNatClampNeg) * n2.toInt64)), rJ cJ a_cost 366 c_cost, rI cI a_act 366 c_act, rI cI ap1 10 cp1] := hD
        refine lv_aload_n hx hb dX4_solve_64 rfl (lv_at hl 0 rfl) ?_
        refine lv_iload_n hx hb dX4_solve_65 rfl (lv_at hl 2 rfl) ?_
        obtain ⟨o15, o16, o17, o18, hc14, hf⟩ := ob4 hf
        refine rw_callv (va_runV (As := [.int n3]) (rest := []) ⟨hx, hb, hml, hown, hts⟩ (k_X4_solvePeriod l hl0 D cI cJ cZ cS B0 H.size a0 a_terms a_low a_high a_bottom a_cost a_act c_terms c_low c_high (vp_updL c_bottom n3.toNatClampNeg ((c_bottom (n3 - 1).toNatClampNeg) * n2.toInt64)) c_cost c_act n3 o15 o16 o17 o18 hc14) (cwV 1 hts (gV tb_932 tb_934 ts_37 tb_6 tb_935) rfl rfl rfl (by decide +kernel) ⟨Nat.le_of_ble_eq_true rfl, Nat.le_of_ble_eq_true rfl⟩) ⟨wp_blind, va_recv hK hP (ci := 3) (q0 := 0) rfl rfl, wp_pre (hP.sub [0, 1, 2, 3, 4, 5, 6] rfl) hK (va_D.sub (hD.weaken (fun _ _ _ h9 => hAB _ h9)) [0, 1, 2, 3, 4, 5, 6] rfl rfl) (hBn _ _ hS) (hEn _ _ hS)⟩ rfl rfl hl.1 rfl (lv_room (Nat.le_of_ble_eq_true rfl)) dX4_solve_66 ⟨Nat.le_of_ble_eq_true rfl, Nat.le_of_ble_eq_true rfl⟩) hP hD hS hA [oX4 a0 a_terms a_low a_high a_bottom a_cost a_act, rI cI a_terms 10 c_terms, rI cI a_low 6 o15, rI cI a_high 6 o16, rJ cJ a_bottom 6 (vp_updL c_bottom n3.toNatClampNeg ((c_bottom (n3 - 1).toNatClampNeg) * n2.toInt64)), rJ cJ a_cost 366 o17, rI cI a_act 366 o18, rI cI ap1 10 cp1] 8 [0, 1, 2, 3, 4, 5, 6] [7] rfl rfl rfl rfl (by decide +kernel) rfl (fun H locs hP hD hS => ?_)
        refine lv_iinc (v := (n3 + 1)) (lv' := [(3, .int (n3 + 1)), (0, .ref a0), (2, .int n2)]) hx hb dX4_solve_69 hl (k := 2) rfl rfl (by decide) rfl (fun ls hl => ?_)
        refine lv_goto (tgt := 42) hx hb dX4_solve_72 (by decide) ?_
        obtain rfl := Option.some.inj hf
        exact (hWW _ _ _ _ _).mp (ih _ _ _ _ _ _ _ _ _ _ _ _ _ hlp K _ _ ls hP hD hS (lv_sub hl [1, 2, 0] rfl))
  refine (hWW _ _ _ _ _).mpr ?_
  refine lv_aload_n hx hb dX4_solve_0 rfl (lv_at hl 0 rfl) ?_
  refine lv_aload_n hx hb dX4_solve_1 rfl (lv_at hl 1 rfl) ?_
  obtain ⟨r1, o3, hc2, hf⟩ := ob2 hf
  refine rw_calli (r := r1) (va_runV (As := [.ref ap1]) (rest := []) ⟨hx, hb, hml, hown, hts⟩ (k_X4_takeTerms l hl0 D cI cJ cZ cS B0 H.size a0 a_terms a_low a_high a_bottom a_cost a_act ap1 c_terms cp1 r1 o3 hc2) (cwV 1 hts (gV tb_928 tb_930 ts_36 tb_6 tb_931) rfl rfl rfl (by decide +kernel) ⟨Nat.le_of_ble_eq_true rfl, Nat.le_of_ble_eq_true rfl⟩) ⟨wp_blind, va_recv hK hP (ci := 3) (q0 := 0) rfl rfl, wp_pre (hP.sub [0, 1, 7] rfl) hK (va_D.sub (hD.weaken (fun _ _ _ h9 => hAB _ h9)) [0, 1, 7] rfl rfl) (hBn _ _ hS) (hEn _ _ hS)⟩ rfl rfl hl.1 rfl (lv_room (Nat.le_of_ble_eq_true rfl)) dX4_solve_2 ⟨Nat.le_of_ble_eq_true rfl, Nat.le_of_ble_eq_true rfl⟩) hP hD hS hA [oX4 a0 a_terms a_low a_high a_bottom a_cost a_act, rI cI a_terms 10 o3, rI cI a_low 6 c_low, rI cI a_high 6 c_high, rJ cJ a_bottom 6 c_bottom, rJ cJ a_cost 366 c_cost, rI cI a_act 366 c_act, rI cI ap1 10 cp1] 8 [0, 1, 7] [2, 3, 4, 5, 6] rfl rfl rfl rfl (by decide +kernel) rfl (fun H locs hP hD hS => ?_)
  refine lv_if_ne (tgt := 9) hx hb dX4_solve_5 (by decide) (fun h4 => ?_) (fun h4 => ?_)
  · have hf := ineg h4 hf
    refine lv_iconst (v := 0) hx hb dX4_solve_9 (by decide) ?_
    refine lv_istore_n (lv' := [(2, .int 0), (0, .ref a0), (1, .ref ap1)]) hx hb dX4_solve_10 rfl hl (by decide) rfl (fun ls hl => ?_)
    refine lv_iconst (v := 0) hx hb dX4_solve_11 (by decide) ?_
    refine lv_istore_n (lv' := [(3, .int 0), (2, .int 0), (0, .ref a0), (1, .ref ap1)]) hx hb dX4_solve_12 rfl hl (by decide) rfl (fun ls hl => ?_)
    obtain ⟨m8, hc7, hf⟩ := ob1 hf
    refine (hWW _ _ _ _ _).mp (hL13 fu _ _ _ _ _ _ _ _ _ hc7 (fun H locs ls hP hD hS hl => ?_) _ _ ls hP hD hS (lv_sub hl [2, 1, 0] rfl))
    · refine (hWW _ _ _ _ _).mpr ?_
      refine lv_aload_n hx hb dX4_solve_33 rfl (lv_at hl 0 rfl) ?_
      refine va_get (D := D) (ci := 3) (v := .ref a_bottom) (C := RX4) (T := TX4) (N := 6) hx hb hts (fun w h => mb (iX4 w h)) hown hK hP 0 rfl rfl 3 (by decide) (hts _ (mb tb_210)) (fun _ h9 => h9) rfl dX4_solve_34 ?_
      refine lv_iconst (v := 0) hx hb dX4_solve_37 (by decide) ?_
      refine lv_lconst (v := 1) hx hb dX4_solve_38 (by decide) ?_
      obtain ⟨h9, hf⟩ := ob_d hf
      refine va_last hx hb hK hP hD hS 4 1 rfl rfl h9 dX4_solve_39 (fun H locs hP hD hS => ?_)
      have hP : va_P D vwCl [oX4 a0 a_terms a_low a_high a_bottom a_cost a_act, rI cI a_terms 10 o3, rI cI a_low 6 c_low, rI cI a_high 6 c_high, rJ cJ a_bottom 6 (vp_updL c_bottom (0 : Int32).toNatClampNeg 1), rJ cJ a_cost 366 c_cost, rI cI a_act 366 c_act, rI cI ap1 10 cp1] H := hP
      have hD : va_D A [oX4 a0 a_terms a_low a_high a_bottom a_cost a_act, rI cI a_terms 10 o3, rI cI a_low 6 c_low, rI cI a_high 6 c_high, rJ cJ a_bottom 6 (vp_updL c_bottom (0 : Int32).toNatClampNeg 1), rJ cJ a_cost 366 c_cost, rI cI a_act 366 c_act, rI cI ap1 10 cp1] := hD
      refine lv_iconst (v := 1) hx hb dX4_solve_40 (by decide) ?_
      refine lv_istore_n (lv' := [(3, .int 1), (0, .ref a0), (2, .int m8)]) hx hb dX4_solve_41 rfl hl (by decide) rfl (fun ls hl => ?_)
      obtain ⟨c20, c21, c22, c23, c24, hc19, hf⟩ := ob5 hf
      refine (hWW _ _ _ _ _).mp (hL42 fu _ _ _ _ _ _ _ _ _ _ _ _ _ hc19 (fun H locs ls hP hD hS hl => ?_) _ _ ls hP hD hS (lv_sub hl [1, 2, 0] rfl))
      · refine (hWW _ _ _ _ _).mpr ?_
        cases hf
        refine W.widen (k := 0) (n := 0) (Nat.le_of_ble_eq_true rfl) (Nat.le_of_ble_eq_true rfl) ?_
        exact W.vret hx hb hr (fun t ht hW => ⟨⟨(), rfl, trivial, (by show va_P D vwCl _ t.heap; rw [ht]; exact hP)⟩, hS.F ht⟩) hS.2.2 dX4_solve_75
  · have hf := ipos h4 hf
    cases hf
    refine W.widen (k := 0) (n := 0) (Nat.le_of_ble_eq_true rfl) (Nat.le_of_ble_eq_true rfl) ?_
    exact W.vret hx hb hr (fun t ht hW => ⟨⟨(), rfl, trivial, (by show va_P D vwCl _ t.heap; rw [ht]; exact hP)⟩, hS.F ht⟩) hS.2.2 dX4_solve_8
def f_X4_strayActs_L12_J63 (n1 : Int32) (n2 : Int32) (n3 : Int32) (c_terms : Nat → Int32) (c_low : Nat → Int32) (c_high : Nat → Int32) (c_act : Nat → Int32) : Option ((Int32 × Int32) ⊕ Int32) :=
  some (.inl (n1, n3 + 1))
def f_X4_strayActs_L12_J43 (n1 : Int32) (n2 : Int32) (n3 : Int32) (t0 : Int32) (c_terms : Nat → Int32) (c_low : Nat → Int32) (c_high : Nat → Int32) (c_act : Nat → Int32) : Option ((Int32 × Int32) ⊕ Int32) :=
  bnd1 (f_X4_cell n2 n3) (fun r6 =>
  (gd r6 366 ((if (c_act r6.toNatClampNeg) = t0 then f_X4_strayActs_L12_J63 n1 n2 n3 c_terms c_low c_high c_act
  else f_X4_strayActs_L12_J63 (n1 + 1) n2 n3 c_terms c_low c_high c_act))))
def f_X4_strayActs_L12 (n2 : Int32) (c_terms : Nat → Int32) (c_low : Nat → Int32) (c_high : Nat → Int32) (c_act : Nat → Int32) (n1 : Int32) (n3 : Int32) : Option ((Int32 × Int32) ⊕ Int32) :=
  gd 9 10 ((if (c_terms (9 : Int32).toNatClampNeg) < n3 then some (.inr n1)
  else gd n2 6 ((if (c_low n2.toNatClampNeg) ≤ n3 then f_X4_strayActs_L12_J43 n1 n2 n3 n3 c_terms c_low c_high c_act
  else gd n2 6 (f_X4_strayActs_L12_J43 n1 n2 n3 (c_high n2.toNatClampNeg) c_terms c_low c_high c_act)))))
def f_X4_strayActs_L4 (c_terms : Nat → Int32) (c_low : Nat → Int32) (c_high : Nat → Int32) (c_act : Nat → Int32) (n1 : Int32) (n2 : Int32) : Option ((Int32 × Int32) ⊕ Int32) :=
  (if 5 < n2 then some (.inr n1)
  else (bnd1 (loop (fun z => f_X4_strayActs_L12 n2 c_terms c_low c_high c_act z.1 z.2) fu (n1, (-20))) fun m12 =>
  some (.inl (m12, n2 + 1))))
def f_X4_strayActs (c_terms : Nat → Int32) (c_low : Nat → Int32) (c_high : Nat → Int32) (c_act : Nat → Int32) : Option (Int32) :=
  (bnd1 (loop (fun z => f_X4_strayActs_L4 c_terms c_low c_high c_act z.1 z.2) fu (0, 1)) fun m14 =>
  some m14)
set_option maxHeartbeats 4000000 in
set_option maxRecDepth 100000 in
theorem k_X4_strayActs (l : Launch) (hl0 : l.stackTraces = false) (D : va_G) (cI cJ cZ cS : ClassId) (B0 : Nat) (H0 : Heap) (a0 a_terms a_low a_high a_bottom a_cost a_act : Nat) (c_terms : Nat → Int32) (c_low : Nat → Int32) (c_high : Nat → Int32) (c_act : Nat → Int32) (r9 : Int32)  (hf : f_X4_strayActs c_terms c_low c_high c_act = some r9) : Met l yX4_strayActs (wz yX4_strayActs cX4_strayActs 5 (some .int)) ({ frames := 2, cells := 0, slots := 0, locals := 62 }) (va_Pc [.ref a0] (rp D cI cJ cZ cS B0 [oX4 a0 a_terms a_low a_high a_bottom a_cost a_act, rI cI a_terms 10 c_terms, rI cI a_low 6 c_low, rI cI a_high 6 c_high, rI cI a_act 366 c_act] H0)) (va_Qi (fun (r2 : Int32) (_ : Unit) => r2 = r9) (fun _ t => t.heap = H0) (fun q => H0.size ≤ q)) 0 0 (fun q => H0.size ≤ q) := by
  refine Met.ofW (cc := cX4_strayActs) (maxL := 5) (ret := (some .int)) (by decide) rfl ?_
  intro p e s m args below meth c s₁ B hml hv
  obtain ⟨rfl, hH, hP, hK, hB0, hE⟩ := hv
  subst hH
  have hx := B.exec
  have hb := B.bytes
  have hr := B.returns
  have hts := atoms_spec (ws := (wz yX4_strayActs cX4_strayActs 5 (some .int))) B.pre
  have hown : s.vm.findClass RX4 = some m.cls := findClass_of_methodNamed B.named
  have hlocks := B.notSynchronized
  have hAB : ∀ q : Nat, s.heap.size ≤ q → B0 ≤ q := fun q h => Nat.le_trans hB0 h
  have hA : ∀ q : Nat, s.heap.size ≤ q → s.heap.size ≤ q := fun _ h => h
  have hS : va_S (fun q => s.heap.size ≤ q) s.heap s.heap [] := va_S.rf
  have hBn := fun (H : Heap) (locs : List Loc) (h : va_S (fun q => s.heap.size ≤ q) s.heap H locs) => Nat.le_trans hB0 h.1
  have hEn := fun (H : Heap) (locs : List Loc) (h : va_S (fun q => s.heap.size ≤ q) s.heap H locs) => gE_now hE h hAB
  have hl := lv_entry ([.ref a0]) (n := 5) (Nat.le_of_ble_eq_true rfl)
  rw [lg_entry_eq]
  generalize (lg_sl ([.ref a0]) ++ List.replicate (5 - (lg_sl ([.ref a0])).length) Slot.unset).toArray = ls at hl ⊢
  have hl : lv_has ls 5 [(0, .ref a0)] := hl
  obtain ⟨H, hHe⟩ : ∃ H : Heap, H = s.heap := ⟨_, rfl⟩
  have hP : va_P D vwCl [oX4 a0 a_terms a_low a_high a_bottom a_cost a_act, rI cI a_terms 10 c_terms, rI cI a_low 6 c_low, rI cI a_high 6 c_high, rI cI a_act 366 c_act] H := by rw [hHe]; exact hP
  have hS : va_S (fun q => s.heap.size ≤ q) s.heap H [] := by rw [hHe]; exact hS
  refine W_heq hHe ?_
  unfold f_X4_strayActs at hf
  refine gen_go (fun WW hWW => ?_)
  have hL4 : ∀ (n : Nat) (n1 : Int32) (n2 : Int32) (e1 : Int32), loop (fun z => f_X4_strayActs_L4 c_terms c_low c_high c_act z.1 z.2) n (n1, n2) = some e1 → (∀ (ls : Array Slot), lv_has ls 5 [(1, .int e1)] → WW (F0 m 75 ls [])) → ∀ (ls : Array Slot), lv_has ls 5 [(0, .ref a0), (1, .int n1), (2, .int n2)] → WW (F0 m 4 ls []) := by
    intro n
    induction n with
    | zero =>
      intro n1 n2 e1 hlp
      exact absurd hlp (by simp [loop])
    | succ n ih =>
      intro n1 n2 e1 hlp K ls hl
      obtain ⟨x9, hf, hlp⟩ := loop_s hlp
      have hf : f_X4_strayActs_L4 c_terms c_low c_high c_act n1 n2 = some x9 := hf
      unfold f_X4_strayActs_L4 at hf
      have hL12 : ∀ (n : Nat) (n2 : Int32) (n1 : Int32) (n3 : Int32) (e1 : Int32), loop (fun z => f_X4_strayActs_L12 n2 c_terms c_low c_high c_act z.1 z.2) n (n1, n3) = some e1 → (∀ (ls : Array Slot), lv_has ls 5 [(0, .ref a0), (1, .int e1), (2, .int n2)] → WW (F0 m 69 ls [])) → ∀ (ls : Array Slot), lv_has ls 5 [(0, .ref a0), (1, .int n1), (2, .int n2), (3, .int n3)] → WW (F0 m 12 ls []) := by
        intro n
        induction n with
        | zero =>
          intro n2 n1 n3 e1 hlp
          exact absurd hlp (by simp [loop])
        | succ n ih =>
          intro n2 n1 n3 e1 hlp K ls hl
          obtain ⟨x9, hf, hlp⟩ := loop_s hlp
          have hf : f_X4_strayActs_L12 n2 c_terms c_low c_high c_act n1 n3 = some x9 := hf
          unfold f_X4_strayActs_L12 at hf
          have hJ63 : ∀ (n1 : Int32) (n3 : Int32), f_X4_strayActs_L12_J63 n1 n2 n3 c_terms c_low c_high c_act = some x9 → ∀ (ls : Array Slot), lv_has ls 5 [(0, .ref a0), (1, .int n1), (2, .int n2), (3, .int n3)] → WW (F0 m 63 ls []) := by
            intro n1 n3 hf ls hl
            unfold f_X4_strayActs_L12_J63 at hf
            refine (hWW _).mpr ?_
            refine lv_iinc (v := (n3 + 1)) (lv' := [(3, .int (n3 + 1)), (0, .ref a0), (1, .int n1), (2, .int n2)]) hx hb dX4_strayActs_63 hl (k := 3) rfl rfl (by decide) rfl (fun ls hl => ?_)
            refine lv_goto (tgt := 12) hx hb dX4_strayActs_66 (by decide) ?_
            obtain rfl := Option.some.inj hf
            exact (hWW _).mp (ih _ _ _ _ hlp K ls (lv_sub hl [1, 2, 3, 0] rfl))
          have hJ43 : ∀ (n1 : Int32) (n3 : Int32) (t0 : Int32), f_X4_strayActs_L12_J43 n1 n2 n3 t0 c_terms c_low c_high c_act = some x9 → ∀ (ls : Array Slot), lv_has ls 5 [(0, .ref a0), (1, .int n1), (2, .int n2), (3, .int n3)] → WW (F0 m 43 ls [.int t0]) := by
            intro n1 n3 t0 hf ls hl
            unfold f_X4_strayActs_L12_J43 at hf
            refine (hWW _).mpr ?_
            refine lv_istore (lv' := [(4, .int t0), (0, .ref a0), (1, .int n1), (2, .int n2), (3, .int n3)]) hx hb dX4_strayActs_43 hl (by decide) rfl (fun ls hl => ?_)
            refine lv_aload_n hx hb dX4_strayActs_45 rfl (lv_at hl 1 rfl) ?_
            refine va_get (D := D) (ci := 3) (v := .ref a_act) (C := RX4) (T := TX4) (N := 6) hx hb hts (fun w h => mb (iX4 w h)) hown hK hP 0 rfl rfl 5 (by decide) (hts _ (mb tb_214)) (fun _ h9 => h9) rfl dX4_strayActs_46 ?_
            refine lv_iload_n hx hb dX4_strayActs_49 rfl (lv_at hl 3 rfl) ?_
            refine lv_iload_n hx hb dX4_strayActs_50 rfl (lv_at hl 4 rfl) ?_
            obtain ⟨r6, hc7, hf⟩ := ob1 hf
            refine ro_calli (r := r6) (va_runS (As := [.int n2, .int n3]) (rest := [.ref a_act]) ⟨hx, hb, hml, hown, hts⟩ (k_X4_cell l hl0 D cI cJ cZ cS B0 H n2 n3 r6 hc7) (va_cwS 2 hts (gS tb_940 tb_941 tb_6 tb_942) rfl rfl rfl (by decide +kernel) ⟨Nat.le_of_ble_eq_true rfl, Nat.le_of_ble_eq_true rfl⟩) ⟨rp_blind, rp_pre (hP.sub [] rfl) hK (hBn _ _ hS) (hEn _ _ hS)⟩ rfl rfl hl.1 rfl (lv_room (Nat.le_of_ble_eq_true rfl)) dX4_strayActs_51 ⟨Nat.le_of_ble_eq_true rfl, Nat.le_of_ble_eq_true rfl⟩) ?_
            obtain ⟨h8, hf⟩ := ob_d hf
            refine va_iald hx hb hK hP 4 0 rfl rfl h8 dX4_strayActs_54 ?_
            refine lv_iload hx hb dX4_strayActs_55 (lv_at hl 0 rfl) ?_
            refine lv_icmp_eq (tgt := 63) hx hb dX4_strayActs_57 (by decide) (fun h9 => ?_) (fun h9 => ?_)
            · have hf := ipos h9 hf
              exact (hWW _).mp (hJ63 _ _ hf ls (lv_sub hl [1, 2, 3, 4] rfl))
            · have hf := ineg h9 hf
              refine lv_iinc (v := (n1 + 1)) (lv' := [(1, .int (n1 + 1)), (4, .int t0), (0, .ref a0), (2, .int n2), (3, .int n3)]) hx hb dX4_strayActs_60 hl (k := 2) rfl rfl (by decide) rfl (fun ls hl => ?_)
              exact (hWW _).mp (hJ63 _ _ hf ls (lv_sub hl [2, 0, 3, 4] rfl))
          refine (hWW _).mpr ?_
          refine lv_iload_n hx hb dX4_strayActs_12 rfl (lv_at hl 3 rfl) ?_
          refine lv_aload_n hx hb dX4_strayActs_13 rfl (lv_at hl 0 rfl) ?_
          refine va_get (D := D) (ci := 3) (v := .ref a_terms) (C := RX4) (T := TX4) (N := 6) hx hb hts (fun w h => mb (iX4 w h)) hown hK hP 0 rfl rfl 0 (by decide) (hts _ (mb tb_205)) (fun _ h9 => h9) rfl dX4_strayActs_14 ?_
          refine lv_bipush (v := 9) hx hb dX4_strayActs_17 (by decide) ?_
          obtain ⟨h2, hf⟩ := ob_d hf
          refine va_iald hx hb hK hP 1 0 rfl rfl h2 dX4_strayActs_19 ?_
          refine lv_icmp_gt (tgt := 69) hx hb dX4_strayActs_20 (by decide) (fun h3 => ?_) (fun h3 => ?_)
          · have hf := ipos h3 hf
            obtain rfl := Option.some.inj hf
            cases lpx_r hlp
            exact (hWW _).mp (K ls (lv_sub hl [0, 1, 2] rfl))
          · have hf := ineg h3 hf
            refine lv_iload_n hx hb dX4_strayActs_23 rfl (lv_at hl 3 rfl) ?_
            refine lv_aload_n hx hb dX4_strayActs_24 rfl (lv_at hl 0 rfl) ?_
            refine va_get (D := D) (ci := 3) (v := .ref a_low) (C := RX4) (T := TX4) (N := 6) hx hb hts (fun w h => mb (iX4 w h)) hown hK hP 0 rfl rfl 1 (by decide) (hts _ (mb tb_206)) (fun _ h9 => h9) rfl dX4_strayActs_25 ?_
            refine lv_iload_n hx hb dX4_strayActs_28 rfl (lv_at hl 2 rfl) ?_
            obtain ⟨h4, hf⟩ := ob_d hf
            refine va_iald hx hb hK hP 2 0 rfl rfl h4 dX4_strayActs_29 ?_
            refine lv_icmp_ge (tgt := 42) hx hb dX4_strayActs_30 (by decide) (fun h5 => ?_) (fun h5 => ?_)
            · have hf := ipos h5 hf
              refine lv_iload_n hx hb dX4_strayActs_42 rfl (lv_at hl 3 rfl) ?_
              exact (hWW _).mp (hJ43 _ _ _ hf ls (lv_sub hl [0, 1, 2, 3] rfl))
            · have hf := ineg h5 hf
              refine lv_aload_n hx hb dX4_strayActs_33 rfl (lv_at hl 0 rfl) ?_
              refine va_get (D := D) (ci := 3) (v := .ref a_high) (C := RX4) (T := TX4) (N := 6) hx hb hts (fun w h => mb (iX4 w h)) hown hK hP 0 rfl rfl 2 (by decide) (hts _ (mb tb_208)) (fun _ h9 => h9) rfl dX4_strayActs_34 ?_
              refine lv_iload_n hx hb dX4_strayActs_37 rfl (lv_at hl 2 rfl) ?_
              obtain ⟨h10, hf⟩ := ob_d hf
              refine va_iald hx hb hK hP 3 0 rfl rfl h10 dX4_strayActs_38 ?_
              refine lv_goto (tgt := 43) hx hb dX4_strayActs_39 (by decide) ?_
              exact (hWW _).mp (hJ43 _ _ _ hf ls (lv_sub hl [0, 1, 2, 3] rfl))
      refine (hWW _).mpr ?_
      refine lv_iload_n hx hb dX4_strayActs_4 rfl (lv_at hl 2 rfl) ?_
      refine lv_iconst (v := 5) hx hb dX4_strayActs_5 (by decide) ?_
      refine lv_icmp_gt (tgt := 75) hx hb dX4_strayActs_6 (by decide) (fun h1 => ?_) (fun h1 => ?_)
      · have hf := ipos h1 hf
        obtain rfl := Option.some.inj hf
        cases lpx_r hlp
        exact (hWW _).mp (K ls (lv_sub hl [1] rfl))
      · have hf := ineg h1 hf
        refine lv_bipush (v := (-20)) hx hb dX4_strayActs_9 (by decide) ?_
        refine lv_istore_n (lv' := [(3, .int (-20)), (0, .ref a0), (1, .int n1), (2, .int n2)]) hx hb dX4_strayActs_11 rfl hl (by decide) rfl (fun ls hl => ?_)
        obtain ⟨m12, hc11, hf⟩ := ob1 hf
        refine (hWW _).mp (hL12 fu _ _ _ _ hc11 (fun ls hl => ?_) ls (lv_sub hl [1, 2, 3, 0] rfl))
        · refine (hWW _).mpr ?_
          refine lv_iinc (v := (n2 + 1)) (lv' := [(2, .int (n2 + 1)), (0, .ref a0), (1, .int m12)]) hx hb dX4_strayActs_69 hl (k := 2) rfl rfl (by decide) rfl (fun ls hl => ?_)
          refine lv_goto (tgt := 4) hx hb dX4_strayActs_72 (by decide) ?_
          obtain rfl := Option.some.inj hf
          exact (hWW _).mp (ih  _ _ _ hlp K ls (lv_sub hl [1, 2, 0] rfl))
  refine (hWW _).mpr ?_
  refine lv_iconst (v := 0) hx hb dX4_strayActs_0 (by decide) ?_
  refine lv_istore_n (lv' := [(1, .int 0), (0, .ref a0)]) hx hb dX4_strayActs_1 rfl hl (by decide) rfl (fun ls hl => ?_)
  refine lv_iconst (v := 1) hx hb dX4_strayActs_2 (by decide) ?_
  refine lv_istore_n (lv' := [(2, .int 1), (1, .int 0), (0, .ref a0)]) hx hb dX4_strayActs_3 rfl hl (by decide) rfl (fun ls hl => ?_)
  obtain ⟨m14, hc13, hf⟩ := ob1 hf
  refine (hWW _).mp (hL4 fu _ _ _ hc13 (fun ls hl => ?_) ls (lv_sub hl [2, 1, 0] rfl))
  · refine (hWW _).mpr ?_
    refine lv_iload_n hx hb dX4_strayActs_75 rfl (lv_at hl 0 rfl) ?_
    cases hf
    exact W.iret hx hb hr (fun t ht hW => ⟨⟨_, (), rfl, rfl, (ht.trans hHe)⟩, hS.F ht⟩) hS.2.2 dX4_strayActs_76
