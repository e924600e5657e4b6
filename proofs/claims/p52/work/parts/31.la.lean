def f_L_between (v1 : Int32) (v2 : Int32) (v3 : Int32) (v4 : Int32) (c_positions : Int32) (c_gap : Int32) : Option (Int32) :=
  (if v1 = v3 then some (if 0 ≤ (v2 - v4) then (v2 - v4) else 0 - (v2 - v4))
  else some ((c_gap * (if 0 ≤ (v1 - v3) then (v1 - v3) else 0 - (v1 - v3))) + (if (((2 * (c_positions + 1)) - v2) - v4) < (v2 + v4) then (((2 * (c_positions + 1)) - v2) - v4) else (v2 + v4))))
set_option maxHeartbeats 4000000 in
set_option maxRecDepth 100000 in
theorem k_L_between (l : Launch) (hl0 : l.stackTraces = false) (D : va_G) (cI cJ cZ cS : ClassId) (B0 : Nat) (H0 : Heap) (a0 a_o a_d : Nat) (c_lanes : Int32) (c_positions : Int32) (c_gap : Int32) (c_products : Int32) (c_lots : Int32) (c_orders : Int32) (v1 : Int32) (v2 : Int32) (v3 : Int32) (v4 : Int32) (r9 : Int32)  (hf : f_L_between v1 v2 v3 v4 c_positions c_gap = some r9) : Met l yL_between (wz yL_between cL_between 5 (some .int)) ({ frames := 1, cells := 0, slots := 0, locals := 40 }) (va_Pc [.ref a0, .int v1, .int v2, .int v3, .int v4] (rp D cI cJ cZ cS B0 [oL a0 a_o a_d c_lanes c_positions c_gap c_products c_lots c_orders] H0)) (va_Qi (fun (r2 : Int32) (_ : Unit) => r2 = r9) (fun _ t => t.heap = H0) (fun q => H0.size ≤ q)) 0 0 (fun q => H0.size ≤ q) := by
  refine Met.ofW (cc := cL_between) (maxL := 5) (ret := (some .int)) (by decide) rfl ?_
  intro p e s m args below meth c s₁ B hml hv
  obtain ⟨rfl, hH, hP, hK, hB0, hE⟩ := hv
  subst hH
  have hx := B.exec
  have hb := B.bytes
  have hr := B.returns
  have hts := atoms_spec (ws := (wz yL_between cL_between 5 (some .int))) B.pre
  have hown : s.vm.findClass RL = some m.cls := findClass_of_methodNamed B.named
  have hlocks := B.notSynchronized
  have hAB : ∀ q : Nat, s.heap.size ≤ q → B0 ≤ q := fun q h => Nat.le_trans hB0 h
  have hA : ∀ q : Nat, s.heap.size ≤ q → s.heap.size ≤ q := fun _ h => h
  have hS : va_S (fun q => s.heap.size ≤ q) s.heap s.heap [] := va_S.rf
  have hBn := fun (H : Heap) (locs : List Loc) (h : va_S (fun q => s.heap.size ≤ q) s.heap H locs) => Nat.le_trans hB0 h.1
  have hEn := fun (H : Heap) (locs : List Loc) (h : va_S (fun q => s.heap.size ≤ q) s.heap H locs) => gE_now hE h hAB
  have hl := lv_entry ([.ref a0, .int v1, .int v2, .int v3, .int v4]) (n := 5) (Nat.le_of_ble_eq_true rfl)
  rw [lg_entry_eq]
  generalize (lg_sl ([.ref a0, .int v1, .int v2, .int v3, .int v4]) ++ List.replicate (5 - (lg_sl ([.ref a0, .int v1, .int v2, .int v3, .int v4])).length) Slot.unset).toArray = ls at hl ⊢
  have hl : lv_has ls 5 [(0, .ref a0), (1, .int v1), (2, .int v2), (3, .int v3), (4, .int v4)] := hl
  obtain ⟨H, hHe⟩ : ∃ H : Heap, H = s.heap := ⟨_, rfl⟩
  have hP : va_P D vwCl [oL a0 a_o a_d c_lanes c_positions c_gap c_products c_lots c_orders] H := by rw [hHe]; exact hP
  have hS : va_S (fun q => s.heap.size ≤ q) s.heap H [] := by rw [hHe]; exact hS
  refine W_heq hHe ?_
  unfold f_L_between at hf
  refine lv_iload_n hx hb dL_between_0 rfl (lv_at hl 1 rfl) ?_
  refine lv_iload_n hx hb dL_between_1 rfl (lv_at hl 3 rfl) ?_
  refine lv_icmp_ne (tgt := 13) hx hb dL_between_2 (by decide) (fun h1 => ?_) (fun h1 => ?_)
  · have hf := ineg h1 hf
    refine lv_aload_n hx hb dL_between_13 rfl (lv_at hl 0 rfl) ?_
    refine va_get (D := D) (ci := 8) (v := .int c_gap) (C := RL) (T := TL) (N := 8) hx hb hts (fun w h => mb (iL w h)) hown hK hP 0 rfl rfl 4 (by decide) (hts _ (mb tb_315)) (fun _ h9 => h9) rfl dL_between_14 ?_
    refine lv_iload_n hx hb dL_between_17 rfl (lv_at hl 1 rfl) ?_
    refine lv_iload_n hx hb dL_between_18 rfl (lv_at hl 3 rfl) ?_
    refine lv_isub hx hb dL_between_19 ?_
    refine va_mabs hx hb (hml.trans hl.1.symm) hown (hts _ (mb tb_802)) (hts _ (mb tb_803)) (hts _ (mb tb_8)) (hts _ (mb wm_abs)) (Nat.le_of_ble_eq_true rfl) (Nat.le_of_ble_eq_true rfl) (Nat.le_of_ble_eq_true rfl) (Nat.le_of_ble_eq_true rfl) dL_between_20 ?_
    refine lv_imul hx hb dL_between_23 ?_
    refine lv_iload_n hx hb dL_between_24 rfl (lv_at hl 2 rfl) ?_
    refine lv_iload hx hb dL_between_25 (lv_at hl 4 rfl) ?_
    refine lv_iadd hx hb dL_between_27 ?_
    refine lv_iconst (v := 2) hx hb dL_between_28 (by decide) ?_
    refine lv_aload_n hx hb dL_between_29 rfl (lv_at hl 0 rfl) ?_
    refine va_get (D := D) (ci := 8) (v := .int c_positions) (C := RL) (T := TL) (N := 8) hx hb hts (fun w h => mb (iL w h)) hown hK hP 0 rfl rfl 3 (by decide) (hts _ (mb tb_314)) (fun _ h9 => h9) rfl dL_between_30 ?_
    refine lv_iconst (v := 1) hx hb dL_between_33 (by decide) ?_
    refine lv_iadd hx hb dL_between_34 ?_
    refine lv_imul hx hb dL_between_35 ?_
    refine lv_iload_n hx hb dL_between_36 rfl (lv_at hl 2 rfl) ?_
    refine lv_isub hx hb dL_between_37 ?_
    refine lv_iload hx hb dL_between_38 (lv_at hl 4 rfl) ?_
    refine lv_isub hx hb dL_between_40 ?_
    refine va_mmin hx hb (hml.trans hl.1.symm) hown (hts _ (mb tb_805)) (hts _ (mb tb_257)) (hts _ (mb tb_8)) (hts _ (mb wm_min)) (Nat.le_of_ble_eq_true rfl) (Nat.le_of_ble_eq_true rfl) (Nat.le_of_ble_eq_true rfl) (Nat.le_of_ble_eq_true rfl) dL_between_41 ?_
    refine lv_iadd hx hb dL_between_44 ?_
    cases hf
    exact W.iret hx hb hr (fun t ht hW => ⟨⟨_, (), rfl, rfl, (ht.trans hHe)⟩, hS.F ht⟩) hS.2.2 dL_between_45
  · have hf := ipos h1 hf
    refine lv_iload_n hx hb dL_between_5 rfl (lv_at hl 2 rfl) ?_
    refine lv_iload hx hb dL_between_6 (lv_at hl 4 rfl) ?_
    refine lv_isub hx hb dL_between_8 ?_
    refine va_mabs hx hb (hml.trans hl.1.symm) hown (hts _ (mb tb_802)) (hts _ (mb tb_803)) (hts _ (mb tb_8)) (hts _ (mb wm_abs)) (Nat.le_of_ble_eq_true rfl) (Nat.le_of_ble_eq_true rfl) (Nat.le_of_ble_eq_true rfl) (Nat.le_of_ble_eq_true rfl) dL_between_9 ?_
    cases hf
    exact W.iret hx hb hr (fun t ht hW => ⟨⟨_, (), rfl, rfl, (ht.trans hHe)⟩, hS.F ht⟩) hS.2.2 dL_between_12
def f_L_least0 (v2 : Int32) (v3 : Int32) (v4 : Int32) (c_positions : Int32) (c_gap : Int32) (cp1_len : Nat) (cp1 : Nat → Int32) : Option (Int32) :=
  none
set_option maxHeartbeats 4000000 in
set_option maxRecDepth 100000 in
theorem k_L_least0 (l : Launch) (hl0 : l.stackTraces = false) (D : va_G) (cI cJ cZ cS : ClassId) (B0 : Nat) (H0 : Heap) (a0 a_o a_d ap1 : Nat) (c_lanes : Int32) (c_positions : Int32) (c_gap : Int32) (c_products : Int32) (c_lots : Int32) (c_orders : Int32) (cp1_len : Nat) (cp1 : Nat → Int32) (v2 : Int32) (v3 : Int32) (v4 : Int32) (r9 : Int32)  (hf : f_L_least0 v2 v3 v4 c_positions c_gap cp1_len cp1 = some r9) : Met l yL_least (wz yL_least cL_least 10 (some .int)) ({ frames := 1, cells := 0, slots := 0, locals := 60 }) (va_Pc [.ref a0, .ref ap1, .int v2, .int v3, .int v4] (rp D cI cJ cZ cS B0 [oL a0 a_o a_d c_lanes c_positions c_gap c_products c_lots c_orders, rI cI ap1 cp1_len cp1] H0)) (va_Qi (fun (r2 : Int32) (_ : Unit) => r2 = r9) (fun _ t => t.heap = H0) (fun q => H0.size ≤ q)) 0 0 (fun q => H0.size ≤ q) := by
  unfold f_L_least0 at hf
  cases hf
def f_L_least1_L10_J91 (n2 : Int32) (n3 : Int32) (n4 : Int32) (n5 : Int32) (n6 : Int32) (n7 : Int32) (c_positions : Int32) (c_gap : Int32) (cp1_len : Nat) (cp1 : Nat → Int32) : Option ((Int32 × Int32 × Int32) ⊕ (Int32 × Int32)) :=
  some (.inl (n5, n6, n7 + 1))
def f_L_least1_L10 (n2 : Int32) (n3 : Int32) (n4 : Int32) (c_positions : Int32) (c_gap : Int32) (cp1_len : Nat) (cp1 : Nat → Int32) (n5 : Int32) (n6 : Int32) (n7 : Int32) : Option ((Int32 × Int32 × Int32) ⊕ (Int32 × Int32)) :=
  (if (Int32.ofNat cp1_len) ≤ n7 then some (.inr (n5, n6))
  else (if ((n2 >>> (n7 &&& 31)) &&& 1) = 1 then f_L_least1_L10_J91 n2 n3 n4 n5 n6 n7 c_positions c_gap cp1_len cp1
  else gd n7 cp1_len (gz c_positions (gd n7 cp1_len (gz c_positions (bnd1 (f_L_between n3 n4 ((cp1 n7.toNatClampNeg) / c_positions) (((cp1 n7.toNatClampNeg) - (cp1 n7.toNatClampNeg) / c_positions * c_positions) + 1) c_positions c_gap) (fun r7 =>
  (bnd1 (f_L_least0 (n2 ||| (1 <<< (n7 &&& 31))) ((cp1 n7.toNatClampNeg) / c_positions) (((cp1 n7.toNatClampNeg) - (cp1 n7.toNatClampNeg) / c_positions * c_positions) + 1) c_positions c_gap cp1_len cp1) (fun r9 =>
  (f_L_least1_L10_J91 n2 n3 n4 (if (r7 + r9) < n5 then (r7 + r9) else n5) 0 n7 c_positions c_gap cp1_len cp1))))))))))
def f_L_least1 (v2 : Int32) (v3 : Int32) (v4 : Int32) (c_positions : Int32) (c_gap : Int32) (cp1_len : Nat) (cp1 : Nat → Int32) : Option (Int32) :=
  (bnd2 (loop (fun z => f_L_least1_L10 v2 v3 v4 c_positions c_gap cp1_len cp1 z.1 z.2.1 z.2.2) fu (2147483647, 1, 0)) fun m12 m13 =>
  (if m13 = 0 then some m12
  else bnd1 (f_L_between v3 v4 0 0 c_positions c_gap) (fun r15 =>
  (some r15))))
set_option maxHeartbeats 4000000 in
set_option maxRecDepth 100000 in
theorem k_L_least1 (l : Launch) (hl0 : l.stackTraces = false) (D : va_G) (cI cJ cZ cS : ClassId) (B0 : Nat) (H0 : Heap) (a0 a_o a_d ap1 : Nat) (c_lanes : Int32) (c_positions : Int32) (c_gap : Int32) (c_products : Int32) (c_lots : Int32) (c_orders : Int32) (cp1_len : Nat) (cp1 : Nat → Int32) (v2 : Int32) (v3 : Int32) (v4 : Int32) (r9 : Int32)  (hf : f_L_least1 v2 v3 v4 c_positions c_gap cp1_len cp1 = some r9) : Met l yL_least (wz yL_least cL_least 10 (some .int)) ({ frames := 2, cells := 0, slots := 0, locals := 89 }) (va_Pc [.ref a0, .ref ap1, .int v2, .int v3, .int v4] (rp D cI cJ cZ cS B0 [oL a0 a_o a_d c_lanes c_positions c_gap c_products c_lots c_orders, rI cI ap1 cp1_len cp1] H0)) (va_Qi (fun (r2 : Int32) (_ : Unit) => r2 = r9) (fun _ t => t.heap = H0) (fun q => H0.size ≤ q)) 0 0 (fun q => H0.size ≤ q) := by
  refine Met.ofW (cc := cL_least) (maxL := 10) (ret := (some .int)) (by decide) rfl ?_
  intro p e s m args below meth c s₁ B hml hv
  obtain ⟨rfl, hH, hP, hK, hB0, hE⟩ := hv
  subst hH
  have hx := B.exec
  have hb := B.bytes
  have hr := B.returns
  have hts := atoms_spec (ws := (wz yL_least cL_least 10 (some .int))) B.pre
  have hown : s.vm.findClass RL = some m.cls := findClass_of_methodNamed B.named
  have hlocks := B.notSynchronized
  have hAB : ∀ q : Nat, s.heap.size ≤ q → B0 ≤ q := fun q h => Nat.le_trans hB0 h
  have hA : ∀ q : Nat, s.heap.size ≤ q → s.heap.size ≤ q := fun _ h => h
  have hS : va_S (fun q => s.heap.size ≤ q) s.heap s.heap [] := va_S.rf
  have hBn := fun (H : Heap) (locs : List Loc) (h : va_S (fun q => s.heap.size ≤ q) s.heap H locs) => Nat.le_trans hB0 h.1
  have hEn := fun (H : Heap) (locs : List Loc) (h : va_S (fun q => s.heap.size ≤ q) s.heap H locs) => gE_now hE h hAB
  have hl := lv_entry ([.ref a0, .ref ap1, .int v2, .int v3, .int v4]) (n := 10) (Nat.le_of_ble_eq_true rfl)
  rw [lg_entry_eq]
  generalize (lg_sl ([.ref a0, .ref ap1, .int v2, .int v3, .int v4]) ++ List.replicate (10 - (lg_sl ([.ref a0, .ref ap1, .int v2, .int v3, .int v4])).length) Slot.unset).toArray = ls at hl ⊢
  have hl : lv_has ls 10 [(0, .ref a0), (1, .ref ap1), (2, .int v2), (3, .int v3), (4, .int v4)] := hl
  obtain ⟨H, hHe⟩ : ∃ H : Heap, H = s.heap := ⟨_, rfl⟩
  have hP : va_P D vwCl [oL a0 a_o a_d c_lanes c_positions c_gap c_products c_lots c_orders, rI cI ap1 cp1_len cp1] H := by rw [hHe]; exact hP
  have hS : va_S (fun q => s.heap.size ≤ q) s.heap H [] := by rw [hHe]; exact hS
  refine W_heq hHe ?_
  unfold f_L_least1 at hf
  refine gen_go (fun WW hWW => ?_)
  have hL10 : ∀ (n : Nat) (n2 : Int32) (n3 : Int32) (n4 : Int32) (n5 : Int32) (n6 : Int32) (n7 : Int32) (e5 : Int32) (e6 : Int32), loop (fun z => f_L_least1_L10 n2 n3 n4 c_positions c_gap cp1_len cp1 z.1 z.2.1 z.2.2) n (n5, n6, n7) = some (e5, e6) → (∀ (ls : Array Slot), lv_has ls 10 [(0, .ref a0), (3, .int n3), (4, .int n4), (5, .int e5), (6, .int e6)] → WW (F0 m 97 ls [])) → ∀ (ls : Array Slot), lv_has ls 10 [(0, .ref a0), (1, .ref ap1), (2, .int n2), (3, .int n3), (4, .int n4), (5, .int n5), (6, .int n6), (7, .int n7)] → WW (F0 m 10 ls []) := by
    intro n
    induction n with
    | zero =>
      intro n2 n3 n4 n5 n6 n7 e5 e6 hlp
      exact absurd hlp (by simp [loop])
    | succ n ih =>
      intro n2 n3 n4 n5 n6 n7 e5 e6 hlp K ls hl
      obtain ⟨x9, hf, hlp⟩ := loop_s hlp
      have hf : f_L_least1_L10 n2 n3 n4 c_positions c_gap cp1_len cp1 n5 n6 n7 = some x9 := hf
      unfold f_L_least1_L10 at hf
      have hJ91 : ∀ (n5 : Int32) (n6 : Int32) (n7 : Int32), f_L_least1_L10_J91 n2 n3 n4 n5 n6 n7 c_positions c_gap cp1_len cp1 = some x9 → ∀ (ls : Array Slot), lv_has ls 10 [(0, .ref a0), (1, .ref ap1), (2, .int n2), (3, .int n3), (4, .int n4), (5, .int n5), (6, .int n6), (7, .int n7)] → WW (F0 m 91 ls []) := by
        intro n5 n6 n7 hf ls hl
        unfold f_L_least1_L10_J91 at hf
        refine (hWW _).mpr ?_
        refine lv_iinc (v := (n7 + 1)) (lv' := [(7, .int (n7 + 1)), (0, .ref a0), (1, .ref ap1), (2, .int n2), (3, .int n3), (4, .int n4), (5, .int n5), (6, .int n6)]) hx hb dL_least_91 hl (k := 7) rfl rfl (by decide) rfl (fun ls hl => ?_)
        refine lv_goto (tgt := 10) hx hb dL_least_94 (by decide) ?_
        obtain rfl := Option.some.inj hf
        exact (hWW _).mp (ih _ _ _ _ _ _ _ _ hlp K ls (lv_sub hl [1, 2, 3, 4, 5, 6, 7, 0] rfl))
      refine (hWW _).mpr ?_
      refine lv_iload hx hb dL_least_10 (lv_at hl 7 rfl) ?_
      refine lv_aload_n hx hb dL_least_12 rfl (lv_at hl 1 rfl) ?_
      refine va_alen (v := (Int32.ofNat cp1_len)) hx hb hK hP 1 0 rfl rfl rfl dL_least_13 ?_
      refine lv_icmp_ge (tgt := 97) hx hb dL_least_14 (by decide) (fun h1 => ?_) (fun h1 => ?_)
      · have hf := ipos h1 hf
        obtain rfl := Option.some.inj hf
        cases lpx_r hlp
        exact (hWW _).mp (K ls (lv_sub hl [0, 3, 4, 5, 6] rfl))
      · have hf := ineg h1 hf
        refine lv_iload_n hx hb dL_least_17 rfl (lv_at hl 2 rfl) ?_
        refine lv_iload hx hb dL_least_18 (lv_at hl 7 rfl) ?_
        refine lv_ishr hx hb dL_least_20 ?_
        refine lv_iconst (v := 1) hx hb dL_least_21 (by decide) ?_
        refine lv_iand hx hb dL_least_22 ?_
        refine lv_iconst (v := 1) hx hb dL_least_23 (by decide) ?_
        refine lv_icmp_ne (tgt := 30) hx hb dL_least_24 (by decide) (fun h2 => ?_) (fun h2 => ?_)
        · have hf := ineg h2 hf
          refine lv_iconst (v := 0) hx hb dL_least_30 (by decide) ?_
          refine lv_istore (lv' := [(6, .int 0), (0, .ref a0), (1, .ref ap1), (2, .int n2), (3, .int n3), (4, .int n4), (5, .int n5), (7, .int n7)]) hx hb dL_least_31 hl (by decide) rfl (fun ls hl => ?_)
          refine lv_aload_n hx hb dL_least_33 rfl (lv_at hl 2 rfl) ?_
          refine lv_iload hx hb dL_least_34 (lv_at hl 7 rfl) ?_
          obtain ⟨h3, hf⟩ := ob_d hf
          refine va_iald hx hb hK hP 1 0 rfl rfl h3 dL_least_36 ?_
          refine lv_aload_n hx hb dL_least_37 rfl (lv_at hl 1 rfl) ?_
          refine va_get (D := D) (ci := 8) (v := .int c_positions) (C := RL) (T := TL) (N := 8) hx hb hts (fun w h => mb (iL w h)) hown hK hP 0 rfl rfl 3 (by decide) (hts _ (mb tb_314)) (fun _ h9 => h9) rfl dL_least_38 ?_
          obtain ⟨h4, hf⟩ := ob_z hf
          refine lv_idiv hx hb dL_least_41 h4 ?_
          refine lv_istore (lv' := [(8, .int ((cp1 n7.toNatClampNeg) / c_positions)), (6, .int 0), (0, .ref a0), (1, .ref ap1), (2, .int n2), (3, .int n3), (4, .int n4), (5, .int n5), (7, .int n7)]) hx hb dL_least_42 hl (by decide) rfl (fun ls hl => ?_)
          refine lv_aload_n hx hb dL_least_44 rfl (lv_at hl 3 rfl) ?_
          refine lv_iload hx hb dL_least_45 (lv_at hl 8 rfl) ?_
          obtain ⟨h5, hf⟩ := ob_d hf
          refine va_iald hx hb hK hP 1 0 rfl rfl h5 dL_least_47 ?_
          refine lv_aload_n hx hb dL_least_48 rfl (lv_at hl 2 rfl) ?_
          refine va_get (D := D) (ci := 8) (v := .int c_positions) (C := RL) (T := TL) (N := 8) hx hb hts (fun w h => mb (iL w h)) hown hK hP 0 rfl rfl 3 (by decide) (hts _ (mb tb_314)) (fun _ h9 => h9) rfl dL_least_49 ?_
          obtain ⟨h6, hf⟩ := ob_z hf
          refine lv_irem hx hb dL_least_52 h6 ?_
          refine lv_iconst (v := 1) hx hb dL_least_53 (by decide) ?_
          refine lv_iadd hx hb dL_least_54 ?_
          refine lv_istore (lv' := [(9, .int (((cp1 n7.toNatClampNeg) - (cp1 n7.toNatClampNeg) / c_positions * c_positions) + 1)), (8, .int ((cp1 n7.toNatClampNeg) / c_positions)), (6, .int 0), (0, .ref a0), (1, .ref ap1), (2, .int n2), (3, .int n3), (4, .int n4), (5, .int n5), (7, .int n7)]) hx hb dL_least_55 hl (by decide) rfl (fun ls hl => ?_)
          refine lv_iload hx hb dL_least_57 (lv_at hl 8 rfl) ?_
          refine lv_aload_n hx hb dL_least_59 rfl (lv_at hl 3 rfl) ?_
          refine lv_iload_n hx hb dL_least_60 rfl (lv_at hl 6 rfl) ?_
          refine lv_iload hx hb dL_least_61 (lv_at hl 7 rfl) ?_
          refine lv_iload hx hb dL_least_63 (lv_at hl 1 rfl) ?_
          refine lv_iload hx hb dL_least_65 (lv_at hl 0 rfl) ?_
          obtain ⟨r7, hc8, hf⟩ := ob1 hf
          refine ro_calli (r := r7) (va_runV (As := [.int n3, .int n4, .int ((cp1 n7.toNatClampNeg) / c_positions), .int (((cp1 n7.toNatClampNeg) - (cp1 n7.toNatClampNeg) / c_positions * c_positions) + 1)]) (rest := [.int n5]) ⟨hx, hb, hml, hown, hts⟩ (k_L_between l hl0 D cI cJ cZ cS B0 H a0 a_o a_d c_lanes c_positions c_gap c_products c_lots c_orders n3 n4 ((cp1 n7.toNatClampNeg) / c_positions) (((cp1 n7.toNatClampNeg) - (cp1 n7.toNatClampNeg) / c_positions * c_positions) + 1) r7 hc8) (cwV 4 hts (gV tb_798 tb_800 ts_28 tb_0 tb_801) rfl rfl rfl (by decide +kernel) ⟨Nat.le_of_ble_eq_true rfl, Nat.le_of_ble_eq_true rfl⟩) ⟨rp_blind, va_recv hK hP (ci := 8) (q0 := 0) rfl rfl, rp_pre (hP.sub [0] rfl) hK (hBn _ _ hS) (hEn _ _ hS)⟩ rfl rfl hl.1 rfl (lv_room (Nat.le_of_ble_eq_true rfl)) dL_least_67 ⟨Nat.le_of_ble_eq_true rfl, Nat.le_of_ble_eq_true rfl⟩) ?_
          refine lv_aload_n hx hb dL_least_70 rfl (lv_at hl 3 rfl) ?_
          refine lv_aload_n hx hb dL_least_71 rfl (lv_at hl 4 rfl) ?_
          refine lv_iload_n hx hb dL_least_72 rfl (lv_at hl 5 rfl) ?_
          refine lv_iconst (v := 1) hx hb dL_least_73 (by decide) ?_
          refine lv_iload hx hb dL_least_74 (lv_at hl 9 rfl) ?_
          refine lv_ishl hx hb dL_least_76 ?_
          refine lv_ior hx hb dL_least_77 ?_
          refine lv_iload hx hb dL_least_78 (lv_at hl 1 rfl) ?_
          refine lv_iload hx hb dL_least_80 (lv_at hl 0 rfl) ?_
          obtain ⟨r9, hc10, hf⟩ := ob1 hf
          refine ro_calli (r := r9) (va_runV (As := [.ref ap1, .int (n2 ||| (1 <<< (n7 &&& 31))), .int ((cp1 n7.toNatClampNeg) / c_positions), .int (((cp1 n7.toNatClampNeg) - (cp1 n7.toNatClampNeg) / c_positions * c_positions) + 1)]) (rest := [.int r7, .int n5]) ⟨hx, hb, hml, hown, hts⟩ (k_L_least0 l hl0 D cI cJ cZ cS B0 H a0 a_o a_d ap1 c_lanes c_positions c_gap c_products c_lots c_orders cp1_len cp1 (n2 ||| (1 <<< (n7 &&& 31))) ((cp1 n7.toNatClampNeg) / c_positions) (((cp1 n7.toNatClampNeg) - (cp1 n7.toNatClampNeg) / c_positions * c_positions) + 1) r9 hc10) (cwV 4 hts (gV tb_793 tb_795 ts_27 tb_0 tb_796) rfl rfl rfl (by decide +kernel) ⟨Nat.le_of_ble_eq_true rfl, Nat.le_of_ble_eq_true rfl⟩) ⟨rp_blind, va_recv hK hP (ci := 8) (q0 := 0) rfl rfl, rp_pre (hP.sub [0, 1] rfl) hK (hBn _ _ hS) (hEn _ _ hS)⟩ rfl rfl hl.1 rfl (lv_room (Nat.le_of_ble_eq_true rfl)) dL_least_82 ⟨Nat.le_of_ble_eq_true rfl, Nat.le_of_ble_eq_true rfl⟩) ?_
          refine lv_iadd hx hb dL_least_85 ?_
          refine va_mmin hx hb (hml.trans hl.1.symm) hown (hts _ (mb tb_805)) (hts _ (mb tb_257)) (hts _ (mb tb_8)) (hts _ (mb wm_min)) (Nat.le_of_ble_eq_true rfl) (Nat.le_of_ble_eq_true rfl) (Nat.le_of_ble_eq_true rfl) (Nat.le_of_ble_eq_true rfl) dL_least_86 ?_
          refine lv_istore (lv' := [(5, .int (if (r7 + r9) < n5 then (r7 + r9) else n5)), (9, .int (((cp1 n7.toNatClampNeg) - (cp1 n7.toNatClampNeg) / c_positions * c_positions) + 1)), (8, .int ((cp1 n7.toNatClampNeg) / c_positions)), (6, .int 0), (0, .ref a0), (1, .ref ap1), (2, .int n2), (3, .int n3), (4, .int n4), (7, .int n7)]) hx hb dL_least_89 hl (by decide) rfl (fun ls hl => ?_)
          exact (hWW _).mp (hJ91 _ _ _ hf ls (lv_sub hl [4, 5, 6, 7, 8, 0, 3, 9] rfl))
        · have hf := ipos h2 hf
          refine lv_goto (tgt := 91) hx hb dL_least_27 (by decide) ?_
          exact (hWW _).mp (hJ91 _ _ _ hf ls (lv_sub hl [0, 1, 2, 3, 4, 5, 6, 7] rfl))
  refine (hWW _).mpr ?_
  refine lv_ldc hx hb hown (hts _ (mb tb_797)) dL_least_0 ?_
  refine lv_istore (lv' := [(5, .int 2147483647), (0, .ref a0), (1, .ref ap1), (2, .int v2), (3, .int v3), (4, .int v4)]) hx hb dL_least_2 hl (by decide) rfl (fun ls hl => ?_)
  refine lv_iconst (v := 1) hx hb dL_least_4 (by decide) ?_
  refine lv_istore (lv' := [(6, .int 1), (5, .int 2147483647), (0, .ref a0), (1, .ref ap1), (2, .int v2), (3, .int v3), (4, .int v4)]) hx hb dL_least_5 hl (by decide) rfl (fun ls hl => ?_)
  refine lv_iconst (v := 0) hx hb dL_least_7 (by decide) ?_
  refine lv_istore (lv' := [(7, .int 0), (6, .int 1), (5, .int 2147483647), (0, .ref a0), (1, .ref ap1), (2, .int v2), (3, .int v3), (4, .int v4)]) hx hb dL_least_8 hl (by decide) rfl (fun ls hl => ?_)
  obtain ⟨m12, m13, hc11, hf⟩ := ob2 hf
  refine (hWW _).mp (hL10 fu _ _ _ _ _ _ _ _ hc11 (fun ls hl => ?_) ls (lv_sub hl [3, 4, 5, 6, 7, 2, 1, 0] rfl))
  · refine (hWW _).mpr ?_
    refine lv_iload hx hb dL_least_97 (lv_at hl 4 rfl) ?_
    refine lv_if_eq (tgt := 114) hx hb dL_least_99 (by decide) (fun h14 => ?_) (fun h14 => ?_)
    · have hf := ipos h14 hf
      refine lv_iload hx hb dL_least_114 (lv_at hl 3 rfl) ?_
      cases hf
      exact W.iret hx hb hr (fun t ht hW => ⟨⟨_, (), rfl, rfl, (ht.trans hHe)⟩, hS.F ht⟩) hS.2.2 dL_least_116
    · have hf := ineg h14 hf
      refine lv_aload_n hx hb dL_least_102 rfl (lv_at hl 0 rfl) ?_
      refine lv_iload_n hx hb dL_least_103 rfl (lv_at hl 1 rfl) ?_
      refine lv_iload hx hb dL_least_104 (lv_at hl 2 rfl) ?_
      refine lv_iconst (v := 0) hx hb dL_least_106 (by decide) ?_
      refine lv_iconst (v := 0) hx hb dL_least_107 (by decide) ?_
      obtain ⟨r15, hc16, hf⟩ := ob1 hf
      refine ro_calli (r := r15) (va_runV (As := [.int v3, .int v4, .int 0, .int 0]) (rest := []) ⟨hx, hb, hml, hown, hts⟩ (k_L_between l hl0 D cI cJ cZ cS B0 H a0 a_o a_d c_lanes c_positions c_gap c_products c_lots c_orders v3 v4 0 0 r15 hc16) (cwV 4 hts (gV tb_798 tb_800 ts_28 tb_0 tb_801) rfl rfl rfl (by decide +kernel) ⟨Nat.le_of_ble_eq_true rfl, Nat.le_of_ble_eq_true rfl⟩) ⟨rp_blind, va_recv hK hP (ci := 8) (q0 := 0) rfl rfl, rp_pre (hP.sub [0] rfl) hK (hBn _ _ hS) (hEn _ _ hS)⟩ rfl rfl hl.1 rfl (lv_room (Nat.le_of_ble_eq_true rfl)) dL_least_108 ⟨Nat.le_of_ble_eq_true rfl, Nat.le_of_ble_eq_true rfl⟩) ?_
      refine lv_goto (tgt := 116) hx hb dL_least_111 (by decide) ?_
      cases hf
      exact W.iret hx hb hr (fun t ht hW => ⟨⟨_, (), rfl, rfl, (ht.trans hHe)⟩, hS.F ht⟩) hS.2.2 dL_least_116
def f_L_least2_L10_J91 (n2 : Int32) (n3 : Int32) (n4 : Int32) (n5 : Int32) (n6 : Int32) (n7 : Int32) (c_positions : Int32) (c_gap : Int32) (cp1_len : Nat) (cp1 : Nat → Int32) : Option ((Int32 × Int32 × Int32) ⊕ (Int32 × Int32)) :=
  some (.inl (n5, n6, n7 + 1))
def f_L_least2_L10 (n2 : Int32) (n3 : Int32) (n4 : Int32) (c_positions : Int32) (c_gap : Int32) (cp1_len : Nat) (cp1 : Nat → Int32) (n5 : Int32) (n6 : Int32) (n7 : Int32) : Option ((Int32 × Int32 × Int32) ⊕ (Int32 × Int32)) :=
  (if (Int32.ofNat cp1_len) ≤ n7 then some (.inr (n5, n6))
  else (if ((n2 >>> (n7 &&& 31)) &&& 1) = 1 then f_L_least2_L10_J91 n2 n3 n4 n5 n6 n7 c_positions c_gap cp1_len cp1
  else gd n7 cp1_len (gz c_positions (gd n7 cp1_len (gz c_positions (bnd1 (f_L_between n3 n4 ((cp1 n7.toNatClampNeg) / c_positions) (((cp1 n7.toNatClampNeg) - (cp1 n7.toNatClampNeg) / c_positions * c_positions) + 1) c_positions c_gap) (fun r7 =>
  (bnd1 (f_L_least1 (n2 ||| (1 <<< (n7 &&& 31))) ((cp1 n7.toNatClampNeg) / c_positions) (((cp1 n7.toNatClampNeg) - (cp1 n7.toNatClampNeg) / c_positions * c_positions) + 1) c_positions c_gap cp1_len cp1) (fun r9 =>
  (f_L_least2_L10_J91 n2 n3 n4 (if (r7 + r9) < n5 then (r7 + r9) else n5) 0 n7 c_positions c_gap cp1_len cp1))))))))))
def f_L_least2 (v2 : Int32) (v3 : Int32) (v4 : Int32) (c_positions : Int32) (c_gap : Int32) (cp1_len : Nat) (cp1 : Nat → Int32) : Option (Int32) :=
  (bnd2 (loop (fun z => f_L_least2_L10 v2 v3 v4 c_positions c_gap cp1_len cp1 z.1 z.2.1 z.2.2) fu (2147483647, 1, 0)) fun m12 m13 =>
  (if m13 = 0 then some m12
  else bnd1 (f_L_between v3 v4 0 0 c_positions c_gap) (fun r15 =>
  (some r15))))
set_option maxHeartbeats 4000000 in
set_option maxRecDepth 100000 in
theorem k_L_least2 (l : Launch) (hl0 : l.stackTraces = false) (D : va_G) (cI cJ cZ cS : ClassId) (B0 : Nat) (H0 : Heap) (a0 a_o a_d ap1 : Nat) (c_lanes : Int32) (c_positions : Int32) (c_gap : Int32) (c_products : Int32) (c_lots : Int32) (c_orders : Int32) (cp1_len : Nat) (cp1 : Nat → Int32) (v2 : Int32) (v3 : Int32) (v4 : Int32) (r9 : Int32)  (hf : f_L_least2 v2 v3 v4 c_positions c_gap cp1_len cp1 = some r9) : Met l yL_least (wz yL_least cL_least 10 (some .int)) ({ frames := 3, cells := 0, slots := 0, locals := 118 }) (va_Pc [.ref a0, .ref ap1, .int v2, .int v3, .int v4] (rp D cI cJ cZ cS B0 [oL a0 a_o a_d c_lanes c_positions c_gap c_products c_lots c_orders, rI cI ap1 cp1_len cp1] H0)) (va_Qi (fun (r2 : Int32) (_ : Unit) => r2 = r9) (fun _ t => t.heap = H0) (fun q => H0.size ≤ q)) 0 0 (fun q => H0.size ≤ q) := by
  refine Met.ofW (cc := cL_least) (maxL := 10) (ret := (some .int)) (by decide) rfl ?_
  intro p e s m args below meth c s₁ B hml hv
  obtain ⟨rfl, hH, hP, hK, hB0, hE⟩ := hv
  subst hH
  have hx := B.exec
  have hb := B.bytes
  have hr := B.returns
  have hts := atoms_spec (ws := (wz yL_least cL_least 10 (some .int))) B.pre
  have hown : s.vm.findClass RL = some m.cls := findClass_of_methodNamed B.named
  have hlocks := B.notSynchronized
  have hAB : ∀ q : Nat, s.heap.size ≤ q → B0 ≤ q := fun q h => Nat.le_trans hB0 h
  have hA : ∀ q : Nat, s.heap.size ≤ q → s.heap.size ≤ q := fun _ h => h
  have hS : va_S (fun q => s.heap.size ≤ q) s.heap s.heap [] := va_S.rf
  have hBn := fun (H : Heap) (locs : List Loc) (h : va_S (fun q => s.heap.size ≤ q) s.heap H locs) => Nat.le_trans hB0 h.1
  have hEn := fun (H : Heap) (locs : List Loc) (h : va_S (fun q => s.heap.size ≤ q) s.heap H locs) => gE_now hE h hAB
  have hl := lv_entry ([.ref a0, .ref ap1, .int v2, .int v3, .int v4]) (n := 10) (Nat.le_of_ble_eq_true rfl)
  rw [lg_entry_eq]
  generalize (lg_sl ([.ref a0, .ref ap1, .int v2, .int v3, .int v4]) ++ List.replicate (10 - (lg_sl ([.ref a0, .ref ap1, .int v2, .int v3, .int v4])).length) Slot.unset).toArray = ls at hl ⊢
  have hl : lv_has ls 10 [(0, .ref a0), (1, .ref ap1), (2, .int v2), (3, .int v3), (4, .int v4)] := hl
  obtain ⟨H, hHe⟩ : ∃ H : Heap, H = s.heap := ⟨_, rfl⟩
  have hP : va_P D vwCl [oL a0 a_o a_d c_lanes c_positions c_gap c_products c_lots c_orders, rI cI ap1 cp1_len cp1] H := by rw [hHe]; exact hP
  have hS : va_S (fun q => s.heap.size ≤ q) s.heap H [] := by rw [hHe]; exact hS
  refine W_heq hHe ?_
  unfold f_L_least2 at hf
  refine gen_go (fun WW hWW => ?_)
  have hL10 : ∀ (n : Nat) (n2 : Int32) (n3 : Int32) (n4 : Int32) (n5 : Int32) (n6 : Int32) (n7 : Int32) (e5 : Int32) (e6 : Int32), loop (fun z => f_L_least2_L10 n2 n3 n4 c_positions c_gap cp1_len cp1 z.1 z.2.1 z.2.2) n (n5, n6, n7) = some (e5, e6) → (∀ (ls : Array Slot), lv_has ls 10 [(0, .ref a0), (3, .int n3), (4, .int n4), (5, .int e5), (6, .int e6)] → WW (F0 m 97 ls [])) → ∀ (ls : Array Slot), lv_has ls 10 [(0, .ref a0), (1, .ref ap1), (2, .int n2), (3, .int n3), (4, .int n4), (5, .int n5), (6, .int n6), (7, .int n7)] → WW (F0 m 10 ls []) := by
    intro n
    induction n with
    | zero =>
      intro n2 n3 n4 n5 n6 n7 e5 e6 hlp
      exact absurd hlp (by simp [loop])
    | succ n ih =>
      intro n2 n3 n4 n5 n6 n7 e5 e6 hlp K ls hl
      obtain ⟨x9, hf, hlp⟩ := loop_s hlp
      have hf : f_L_least2_L10 n2 n3 n4 c_positions c_gap cp1_len cp1 n5 n6 n7 = some x9 := hf
      unfold f_L_least2_L10 at hf
      have hJ91 : ∀ (n5 : Int32) (n6 : Int32) (n7 : Int32), f_L_least2_L10_J91 n2 n3 n4 n5 n6 n7 c_positions c_gap cp1_len cp1 = some x9 → ∀ (ls : Array Slot), lv_has ls 10 [(0, .ref a0), (1, .ref ap1), (2, .int n2), (3, .int n3), (4, .int n4), (5, .int n5), (6, .int n6), (7, .int n7)] → WW (F0 m 91 ls []) := by
        intro n5 n6 n7 hf ls hl
        unfold f_L_least2_L10_J91 at hf
        refine (hWW _).mpr ?_
        refine lv_iinc (v := (n7 + 1)) (lv' := [(7, .int (n7 + 1)), (0, .ref a0), (1, .ref ap1), (2, .int n2), (3, .int n3), (4, .int n4), (5, .int n5), (6, .int n6)]) hx hb dL_least_91 hl (k := 7) rfl rfl (by decide) rfl (fun ls hl => ?_)
        refine lv_goto (tgt := 10) hx hb dL_least_94 (by decide) ?_
        obtain rfl := Option.some.inj hf
        exact (hWW _).mp (ih _ _ _ _ _ _ _ _ hlp K ls (lv_sub hl [1, 2, 3, 4, 5, 6, 7, 0] rfl))
      refine (hWW _).mpr ?_
      refine lv_iload hx hb dL_least_10 (lv_at hl 7 rfl) ?_
      refine lv_aload_n hx hb dL_least_12 rfl (lv_at hl 1 rfl) ?_
      refine va_alen (v := (Int32.ofNat cp1_len)) hx hb hK hP 1 0 rfl rfl rfl dL_least_13 ?_
      refine lv_icmp_ge (tgt := 97) hx hb dL_least_14 (by decide) (fun h1 => ?_) (fun h1 => ?_)
      · have hf := ipos h1 hf
        obtain rfl := Option.some.inj hf
        cases lpx_r hlp
        exact (hWW _).mp (K ls (lv_sub hl [0, 3, 4, 5, 6] rfl))
      · have hf := ineg h1 hf
        refine lv_iload_n hx hb dL_least_17 rfl (lv_at hl 2 rfl) ?_
        refine lv_iload hx hb dL_least_18 (lv_at hl 7 rfl) ?_
        refine lv_ishr hx hb dL_least_20 ?_
        refine lv_iconst (v := 1) hx hb dL_least_21 (by decide) ?_
        refine lv_iand hx hb dL_least_22 ?_
        refine lv_iconst (v := 1) hx hb dL_least_23 (by decide) ?_
        refine lv_icmp_ne (tgt := 30) hx hb dL_least_24 (by decide) (fun h2 => ?_) (fun h2 => ?_)
        · have hf := ineg h2 hf
          refine lv_iconst (v := 0) hx hb dL_least_30 (by decide) ?_
          refine lv_istore (lv' := [(6, .int 0), (0, .ref a0), (1, .ref ap1), (2, .int n2), (3, .int n3), (4, .int n4), (5, .int n5), (7, .int n7)]) hx hb dL_least_31 hl (by decide) rfl (fun ls hl => ?_)
          refine lv_aload_n hx hb dL_least_33 rfl (lv_at hl 2 rfl) ?_
          refine lv_iload hx hb dL_least_34 (lv_at hl 7 rfl) ?_
          obtain ⟨h3, hf⟩ := ob_d hf
          refine va_iald hx hb hK hP 1 0 rfl rfl h3 dL_least_36 ?_
          refine lv_aload_n hx hb dL_least_37 rfl (lv_at hl 1 rfl) ?_
          refine va_get (D := D) (ci := 8) (v := .int c_positions) (C := RL) (T := TL) (N := 8) hx hb hts (fun w h => mb (iL w h)) hown hK hP 0 rfl rfl 3 (by decide) (hts _ (mb tb_314)) (fun _ h9 => h9) rfl dL_least_38 ?_
          obtain ⟨h4, hf⟩ := ob_z hf
          refine lv_idiv hx hb dL_least_41 h4 ?_
          refine lv_istore (lv' := [(8, .int ((cp1 n7.toNatClampNeg) / c_positions)), (6, .int 0), (0, .ref a0), (1, .ref ap1), (2, .int n2), (3, .int n3), (4, .int n4), (5, .int n5), (7, .int n7)]) hx hb dL_least_42 hl (by decide) rfl (fun ls hl => ?_)
          refine lv_aload_n hx hb dL_least_44 rfl (lv_at hl 3 rfl) ?_
          refine lv_iload hx hb dL_least_45 (lv_at hl 8 rfl) ?_
          obtain ⟨h5, hf⟩ := ob_d hf
          refine va_iald hx hb hK hP 1 0 rfl rfl h5 dL_least_47 ?_
          refine lv_aload_n hx hb dL_least_48 rfl (lv_at hl 2 rfl) ?_
          refine va_get (D := D) (ci := 8) (v := .int c_positions) (C := RL) (T := TL) (N := 8) hx hb hts (fun w h => mb (iL w h)) hown hK hP 0 rfl rfl 3 (by decide) (hts _ (mb tb_314)) (fun _ h9 => h9) rfl dL_least_49 ?_
          obtain ⟨h6, hf⟩ := ob_z hf
          refine lv_irem hx hb dL_least_52 h6 ?_
          refine lv_iconst (v := 1) hx hb dL_least_53 (by decide) ?_
          refine lv_iadd hx hb dL_least_54 ?_
          refine lv_istore (lv' := [(9, .int (((cp1 n7.toNatClampNeg) - (cp1 n7.toNatClampNeg) / c_positions * c_positions) + 1)), (8, .int ((cp1 n7.toNatClampNeg) / c_positions)), (6, .int 0), (0, .ref a0), (1, .ref ap1), (2, .int n2), (3, .int n3), (4, .int n4), (5, .int n5), (7, .int n7)]) hx hb dL_least_55 hl (by decide) rfl (fun ls hl => ?_)
          refine lv_iload hx hb dL_least_57 (lv_at hl 8 rfl) ?_
          refine lv_aload_n hx hb dL_least_59 rfl (lv_at hl 3 rfl) ?_
          refine lv_iload_n hx hb dL_least_60 rfl (lv_at hl 6 rfl) ?_
          refine lv_iload hx hb dL_least_61 (lv_at hl 7 rfl) ?_
          refine lv_iload hx hb dL_least_63 (lv_at hl 1 rfl) ?_
          refine lv_iload hx hb dL_least_65 (lv_at hl 0 rfl) ?_
          obtain ⟨r7, hc8, hf⟩ := ob1 hf
          refine ro_calli (r := r7) (va_runV (As := [.int n3, .int n4, .int ((cp1 n7.toNatClampNeg) / c_positions), .int (((cp1 n7.toNatClampNeg) - (cp1 n7.toNatClampNeg) / c_positions * c_positions) + 1)]) (rest := [.int n5]) ⟨hx, hb, hml, hown, hts⟩ (k_L_between l hl0 D cI cJ cZ cS B0 H a0 a_o a_d c_lanes c_positions c_gap c_products c_lots c_orders n3 n4 ((cp1 n7.toNatClampNeg) / c_positions) (((cp1 n7.toNatClampNeg) - (cp1 n7.toNatClampNeg) / c_positions * c_positions) + 1) r7 hc8) (cwV 4 hts (gV tb_798 tb_800 ts_28 tb_0 tb_801) rfl rfl rfl (by decide +kernel) ⟨Nat.le_of_ble_eq_true rfl, Nat.le_of_ble_eq_true rfl⟩) ⟨rp_blind, va_recv hK hP (ci := 8) (q0 := 0) rfl rfl, rp_pre (hP.sub [0] rfl) hK (hBn _ _ hS) (hEn _ _ hS)⟩ rfl rfl hl.1 rfl (lv_room (Nat.le_of_ble_eq_true rfl)) dL_least_67 ⟨Nat.le_of_ble_eq_true rfl, Nat.le_of_ble_eq_true rfl⟩) ?_
          refine lv_aload_n hx hb dL_least_70 rfl (lv_at hl 3 rfl) ?_
          refine lv_aload_n hx hb dL_least_71 rfl (lv_at hl 4 rfl) ?_
          refine lv_iload_n hx hb dL_least_72 rfl (lv_at hl 5 rfl) ?_
          refine lv_iconst (v := 1) hx hb dL_least_73 (by decide) ?_
          refine lv_iload hx hb dL_least_74 (lv_at hl 9 rfl) ?_
          refine lv_ishl hx hb dL_least_76 ?_
          refine lv_ior hx hb dL_least_77 ?_
          refine lv_iload hx hb dL_least_78 (lv_at hl 1 rfl) ?_
          refine lv_iload hx hb dL_least_80 (lv_at hl 0 rfl) ?_
          obtain ⟨r9, hc10, hf⟩ := ob1 hf
          refine ro_calli (r := r9) (va_runV (As := [.ref ap1, .int (n2 ||| (1 <<< (n7 &&& 31))), .int ((cp1 n7.toNatClampNeg) / c_positions), .int (((cp1 n7.toNatClampNeg) - (cp1 n7.toNatClampNeg) / c_positions * c_positions) + 1)]) (rest := [.int r7, .int n5]) ⟨hx, hb, hml, hown, hts⟩ (k_L_least1 l hl0 D cI cJ cZ cS B0 H a0 a_o a_d ap1 c_lanes c_positions c_gap c_products c_lots c_orders cp1_len cp1 (n2 ||| (1 <<< (n7 &&& 31))) ((cp1 n7.toNatClampNeg) / c_positions) (((cp1 n7.toNatClampNeg) - (cp1 n7.toNatClampNeg) / c_positions * c_positions) + 1) r9 hc10) (cwV 4 hts (gV tb_793 tb_795 ts_27 tb_0 tb_796) rfl rfl rfl (by decide +kernel) ⟨Nat.le_of_ble_eq_true rfl, Nat.le_of_ble_eq_true rfl⟩) ⟨rp_blind, va_recv hK hP (ci := 8) (q0 := 0) rfl rfl, rp_pre (hP.sub [0, 1] rfl) hK (hBn _ _ hS) (hEn _ _ hS)⟩ rfl rfl hl.1 rfl (lv_room (Nat.le_of_ble_eq_true rfl)) dL_least_82 ⟨Nat.le_of_ble_eq_true rfl, Nat.le_of_ble_eq_true rfl⟩) ?_
          refine lv_iadd hx hb dL_least_85 ?_
          refine va_mmin hx hb (hml.trans hl.1.symm) hown (hts _ (mb tb_805)) (hts _ (mb tb_257)) (hts _ (mb tb_8)) (hts _ (mb wm_min)) (Nat.le_of_ble_eq_true rfl) (Nat.le_of_ble_eq_true rfl) (Nat.le_of_ble_eq_true rfl) (Nat.le_of_ble_eq_true rfl) dL_least_86 ?_
          refine lv_istore (lv' := [(5, .int (if (r7 + r9) < n5 then (r7 + r9) else n5)), (9, .int (((cp1 n7.toNatClampNeg) - (cp1 n7.toNatClampNeg) / c_positions * c_positions) + 1)), (8, .int ((cp1 n7.toNatClampNeg) / c_positions)), (6, .int 0), (0, .ref a0), (1, .ref ap1), (2, .int n2), (3, .int n3), (4, .int n4), (7, .int n7)]) hx hb dL_least_89 hl (by decide) rfl (fun ls hl => ?_)
          exact (hWW _).mp (hJ91 _ _ _ hf ls (lv_sub hl [4, 5, 6, 7, 8, 0, 3, 9] rfl))
        · have hf := ipos h2 hf
          refine lv_goto (tgt := 91) hx hb dL_least_27 (by decide) ?_
          exact (hWW _).mp (hJ91 _ _ _ hf ls (lv_sub hl [0, 1, 2, 3, 4, 5, 6, 7] rfl))
  refine (hWW _).mpr ?_
  refine lv_ldc hx hb hown (hts _ (mb tb_797)) dL_least_0 ?_
  refine lv_istore (lv' := [(5, .int 2147483647), (0, .ref a0), (1, .ref ap1), (2, .int v2), (3, .int v3), (4, .int v4)]) hx hb dL_least_2 hl (by decide) rfl (fun ls hl => ?_)
  refine lv_iconst (v := 1) hx hb dL_least_4 (by decide) ?_
  refine lv_istore (lv' := [(6, .int 1), (5, .int 2147483647), (0, .ref a0), (1, .ref ap1), (2, .int v2), (3, .int v3), (4, .int v4)]) hx hb dL_least_5 hl (by decide) rfl (fun ls hl => ?_)
  refine lv_iconst (v := 0) hx hb dL_least_7 (by decide) ?_
  refine lv_istore (lv' := [(7, .int 0), (6, .int 1), (5, .int 2147483647), (0, .ref a0), (1, .ref ap1), (2, .int v2), (3, .int v3), (4, .int v4)]) hx hb dL_least_8 hl (by decide) rfl (fun ls hl => ?_)
  obtain ⟨m12, m13, hc11, hf⟩ := ob2 hf
  refine (hWW _).mp (hL10 fu _ _ _ _ _ _ _ _ hc11 (fun ls hl => ?_) ls (lv_sub hl [3, 4, 5, 6, 7, 2, 1, 0] rfl))
  · refine (hWW _).mpr ?_
    refine lv_iload hx hb dL_least_97 (lv_at hl 4 rfl) ?_
    refine lv_if_eq (tgt := 114) hx hb dL_least_99 (by decide) (fun h14 => ?_) (fun h14 => ?_)
    · have hf := ipos h14 hf
      refine lv_iload hx hb dL_least_114 (lv_at hl 3 rfl) ?_
      cases hf
      exact W.iret hx hb hr (fun t ht hW => ⟨⟨_, (), rfl, rfl, (ht.trans hHe)⟩, hS.F ht⟩) hS.2.2 dL_least_116
    · have hf := ineg h14 hf
      refine lv_aload_n hx hb dL_least_102 rfl (lv_at hl 0 rfl) ?_
      refine lv_iload_n hx hb dL_least_103 rfl (lv_at hl 1 rfl) ?_
      refine lv_iload hx hb dL_least_104 (lv_at hl 2 rfl) ?_
      refine lv_iconst (v := 0) hx hb dL_least_106 (by decide) ?_
      refine lv_iconst (v := 0) hx hb dL_least_107 (by decide) ?_
      obtain ⟨r15, hc16, hf⟩ := ob1 hf
      refine ro_calli (r := r15) (va_runV (As := [.int v3, .int v4, .int 0, .int 0]) (rest := []) ⟨hx, hb, hml, hown, hts⟩ (k_L_between l hl0 D cI cJ cZ cS B0 H a0 a_o a_d c_lanes c_positions c_gap c_products c_lots c_orders v3 v4 0 0 r15 hc16) (cwV 4 hts (gV tb_798 tb_800 ts_28 tb_0 tb_801) rfl rfl rfl (by decide +kernel) ⟨Nat.le_of_ble_eq_true rfl, Nat.le_of_ble_eq_true rfl⟩) ⟨rp_blind, va_recv hK hP (ci := 8) (q0 := 0) rfl rfl, rp_pre (hP.sub [0] rfl) hK (hBn _ _ hS) (hEn _ _ hS)⟩ rfl rfl hl.1 rfl (lv_room (Nat.le_of_ble_eq_true rfl)) dL_least_108 ⟨Nat.le_of_ble_eq_true rfl, Nat.le_of_ble_eq_true rfl⟩) ?_
      refine lv_goto (tgt := 116) hx hb dL_least_111 (by decide) ?_
      cases hf
      exact W.iret hx hb hr (fun t ht hW => ⟨⟨_, (), rfl, rfl, (ht.trans hHe)⟩, hS.F ht⟩) hS.2.2 dL_least_116
def f_L_least3_L10_J91 (n2 : Int32) (n3 : Int32) (n4 : Int32) (n5 : Int32) (n6 : Int32) (n7 : Int32) (c_positions : Int32) (c_gap : Int32) (cp1_len : Nat) (cp1 : Nat → Int32) : Option ((Int32 × Int32 × Int32) ⊕ (Int32 × Int32)) :=
  some (.inl (n5, n6, n7 + 1))
def f_L_least3_L10 (n2 : Int32) (n3 : Int32) (n4 : Int32) (c_positions : Int32) (c_gap : Int32) (cp1_len : Nat) (cp1 : Nat → Int32) (n5 : Int32) (n6 : Int32) (n7 : Int32) : Option ((Int32 × Int32 × Int32) ⊕ (Int32 × Int32)) :=
  (if (Int32.ofNat cp1_len) ≤ n7 then some (.inr (n5, n6))
  else (if ((n2 >>> (n7 &&& 31)) &&& 1) = 1 then f_L_least3_L10_J91 n2 n3 n4 n5 n6 n7 c_positions c_gap cp1_len cp1
  else gd n7 cp1_len (gz c_positions (gd n7 cp1_len (gz c_positions (bnd1 (f_L_between n3 n4 ((cp1 n7.toNatClampNeg) / c_positions) (((cp1 n7.toNatClampNeg) - (cp1 n7.toNatClampNeg) / c_positions * c_positions) + 1) c_positions c_gap) (fun r7 =>
  (bnd1 (f_L_least2 (n2 ||| (1 <<< (n7 &&& 31))) ((cp1 n7.toNatClampNeg) / c_positions) (((cp1 n7.toNatClampNeg) - (cp1 n7.toNatClampNeg) / c_positions * c_positions) + 1) c_positions c_gap cp1_len cp1) (fun r9 =>
  (f_L_least3_L10_J91 n2 n3 n4 (if (r7 + r9) < n5 then (r7 + r9) else n5) 0 n7 c_positions c_gap cp1_len cp1))))))))))
def f_L_least3 (v2 : Int32) (v3 : Int32) (v4 : Int32) (c_positions : Int32) (c_gap : Int32) (cp1_len : Nat) (cp1 : Nat → Int32) : Option (Int32) :=
  (bnd2 (loop (fun z => f_L_least3_L10 v2 v3 v4 c_positions c_gap cp1_len cp1 z.1 z.2.1 z.2.2) fu (2147483647, 1, 0)) fun m12 m13 =>
  (if m13 = 0 then some m12
  else bnd1 (f_L_between v3 v4 0 0 c_positions c_gap) (fun r15 =>
  (some r15))))
set_option maxHeartbeats 4000000 in
set_option maxRecDepth 100000 in
theorem k_L_least3 (l : Launch) (hl0 : l.stackTraces = false) (D : va_G) (cI cJ cZ cS : ClassId) (B0 : Nat) (H0 : Heap) (a0 a_o a_d ap1 : Nat) (c_lanes : Int32) (c_positions : Int32) (c_gap : Int32) (c_products : Int32) (c_lots : Int32) (c_orders : Int32) (cp1_len : Nat) (cp1 : Nat → Int32) (v2 : Int32) (v3 : Int32) (v4 : Int32) (r9 : Int32)  (hf : f_L_least3 v2 v3 v4 c_positions c_gap cp1_len cp1 = some r9) : Met l yL_least (wz yL_least cL_least 10 (some .int)) ({ frames := 4, cells := 0, slots := 0, locals := 147 }) (va_Pc [.ref a0, .ref ap1, .int v2, .int v3, .int v4] (rp D cI cJ cZ cS B0 [oL a0 a_o a_d c_lanes c_positions c_gap c_products c_lots c_orders, rI cI ap1 cp1_len cp1] H0)) (va_Qi (fun (r2 : Int32) (_ : Unit) => r2 = r9) (fun _ t => t.heap = H0) (fun q => H0.size ≤ q)) 0 0 (fun q => H0.size ≤ q) := by
  refine Met.ofW (cc := cL_least) (maxL := 10) (ret := (some .int)) (by decide) rfl ?_
  intro p e s m args below meth c s₁ B hml hv
  obtain ⟨rfl, hH, hP, hK, hB0, hE⟩ := hv
  subst hH
  have hx := B.exec
  have hb := B.bytes
  have hr := B.returns
  have hts := atoms_spec (ws := (wz yL_least cL_least 10 (some .int))) B.pre
  have hown : s.vm.findClass RL = some m.cls := findClass_of_methodNamed B.named
  have hlocks := B.notSynchronized
  have hAB : ∀ q : Nat, s.heap.size ≤ q → B0 ≤ q := fun q h => Nat.le_trans hB0 h
  have hA : ∀ q : Nat, s.heap.size ≤ q → s.heap.size ≤ q := fun _ h => h
  have hS : va_S (fun q => s.heap.size ≤ q) s.heap s.heap [] := va_S.rf
  have hBn := fun (H : Heap) (locs : List Loc) (h : va_S (fun q => s.heap.size ≤ q) s.heap H locs) => Nat.le_trans hB0 h.1
  have hEn := fun (H : Heap) (locs : List Loc) (h : va_S (fun q => s.heap.size ≤ q) s.heap H locs) => gE_now hE h hAB
  have hl := lv_entry ([.ref a0, .ref ap1, .int v2, .int v3, .int v4]) (n := 10) (Nat.le_of_ble_eq_true rfl)
  rw [lg_entry_eq]
  generalize (lg_sl ([.ref a0, .ref ap1, .int v2, .int v3, .int v4]) ++ List.replicate (10 - (lg_sl ([.ref a0, .ref ap1, .int v2, .int v3, .int v4])).length) Slot.unset).toArray = ls at hl ⊢
  have hl : lv_has ls 10 [(0, .ref a0), (1, .ref ap1), (2, .int v2), (3, .int v3), (4, .int v4)] := hl
  obtain ⟨H, hHe⟩ : ∃ H : Heap, H = s.heap := ⟨_, rfl⟩
  have hP : va_P D vwCl [oL a0 a_o a_d c_lanes c_positions c_gap c_products c_lots c_orders, rI cI ap1 cp1_len cp1] H := by rw [hHe]; exact hP
  have hS : va_S (fun q => s.heap.size ≤ q) s.heap H [] := by rw [hHe]; exact hS
  refine W_heq hHe ?_
  unfold f_L_least3 at hf
  refine gen_go (fun WW hWW => ?_)
  have hL10 : ∀ (n : Nat) (n2 : Int32) (n3 : Int32) (n4 : Int32) (n5 : Int32) (n6 : Int32) (n7 : Int32) (e5 : Int32) (e6 : Int32), loop (fun z => f_L_least3_L10 n2 n3 n4 c_positions c_gap cp1_len cp1 z.1 z.2.1 z.2.2) n (n5, n6, n7) = some (e5, e6) → (∀ (ls : Array Slot), lv_has ls 10 [(0, .ref a0), (3, .int n3), (4, .int n4), (5, .int e5), (6, .int e6)] → WW (F0 m 97 ls [])) → ∀ (ls : Array Slot), lv_has ls 10 [(0, .ref a0), (1, .ref ap1), (2, .int n2), (3, .int n3), (4, .int n4), (5, .int n5), (6, .int n6), (7, .int n7)] → WW (F0 m 10 ls []) := by
    intro n
    induction n with
    | zero =>
      intro n2 n3 n4 n5 n6 n7 e5 e6 hlp
      exact absurd hlp (by simp [loop])
    | succ n ih =>
      intro n2 n3 n4 n5 n6 n7 e5 e6 hlp K ls hl
      obtain ⟨x9, hf, hlp⟩ := loop_s hlp
      have hf : f_L_least3_L10 n2 n3 n4 c_positions c_gap cp1_len cp1 n5 n6 n7 = some x9 := hf
      unfold f_L_least3_L10 at hf
      have hJ91 : ∀ (n5 : Int32) (n6 : Int32) (n7 : Int32), f_L_least3_L10_J91 n2 n3 n4 n5 n6 n7 c_positions c_gap cp1_len cp1 = some x9 → ∀ (ls : Array Slot), lv_has ls 10 [(0, .ref a0), (1, .ref ap1), (2, .int n2), (3, .int n3), (4, .int n4), (5, .int n5), (6, .int n6), (7, .int n7)] → WW (F0 m 91 ls []) := by
        intro n5 n6 n7 hf ls hl
        unfold f_L_least3_L10_J91 at hf
        refine (hWW _).mpr ?_
        refine lv_iinc (v := (n7 + 1)) (lv' := [(7, .int (n7 + 1)), (0, .ref a0), (1, .ref ap1), (2, .int n2), (3, .int n3), (4, .int n4), (5, .int n5), (6, .int n6)]) hx hb dL_least_91 hl (k := 7) rfl rfl (by decide) rfl (fun ls hl => ?_)
        refine lv_goto (tgt := 10) hx hb dL_least_94 (by decide) ?_
        obtain rfl := Option.some.inj hf
        exact (hWW _).mp (ih _ _ _ _ _ _ _ _ hlp K ls (lv_sub hl [1, 2, 3, 4, 5, 6, 7, 0] rfl))
      refine (hWW _).mpr ?_
      refine lv_iload hx hb dL_least_10 (lv_at hl 7 rfl) ?_
      refine lv_aload_n hx hb dL_least_12 rfl (lv_at hl 1 rfl) ?_
      refine va_alen (v := (Int32.ofNat cp1_len)) hx hb hK hP 1 0 rfl rfl rfl dL_least_13 ?_
      refine lv_icmp_ge (tgt := 97) hx hb dL_least_14 (by decide) (fun h1 => ?_) (fun h1 => ?_)
      · have hf := ipos h1 hf
        obtain rfl := Option.some.inj hf
        cases lpx_r hlp
        exact (hWW _).mp (K ls (lv_sub hl [0, 3, 4, 5, 6] rfl))
      · have hf := ineg h1 hf
        refine lv_iload_n hx hb dL_least_17 rfl (lv_at hl 2 rfl) ?_
        refine lv_iload hx hb dL_least_18 (lv_at hl 7 rfl) ?_
        refine lv_ishr hx hb dL_least_20 ?_
        refine lv_iconst (v := 1) hx hb dL_least_21 (by decide) ?_
        refine lv_iand hx hb dL_least_22 ?_
        refine lv_iconst (v := 1) hx hb dL_least_23 (by decide) ?_
        refine lv_icmp_ne (tgt := 30) hx hb dL_least_24 (by decide) (fun h2 => ?_) (fun h2 => ?_)
        · have hf := ineg h2 hf
          refine lv_iconst (v := 0) hx hb dL_least_30 (by decide) ?_
          refine lv_istore (lv' := [(6, .int 0), (0, .ref a0), (1, .ref ap1), (2, .int n2), (3, .int n3), (4, .int n4), (5, .int n5), (7, .int n7)]) hx hb dL_least_31 hl (by decide) rfl (fun ls hl => ?_)
          refine lv_aload_n hx hb dL_least_33 rfl (lv_at hl 2 rfl) ?_
          refine lv_iload hx hb dL_least_34 (lv_at hl 7 rfl) ?_
          obtain ⟨h3, hf⟩ := ob_d hf
          refine va_iald hx hb hK hP 1 0 rfl rfl h3 dL_least_36 ?_
          refine lv_aload_n hx hb dL_least_37 rfl (lv_at hl 1 rfl) ?_
          refine va_get (D := D) (ci := 8) (v := .int c_positions) (C := RL) (T := TL) (N := 8) hx hb hts (fun w h => mb (iL w h)) hown hK hP 0 rfl rfl 3 (by decide) (hts _ (mb tb_314)) (fun _ h9 => h9) rfl dL_least_38 ?_
          obtain ⟨h4, hf⟩ := ob_z hf
          refine lv_idiv hx hb dL_least_41 h4 ?_
          refine lv_istore (lv' := [(8, .int ((cp1 n7.toNatClampNeg) / c_positions)), (6, .int 0), (0, .ref a0), (1, .ref ap1), (2, .int n2), (3, .int n3), (4, .int n4), (5, .int n5), (7, .int n7)]) hx hb dL_least_42 hl (by decide) rfl (fun ls hl => ?_)
          refine lv_aload_n hx hb dL_least_44 rfl (lv_at hl 3 rfl) ?_
          refine lv_iload hx hb dL_least_45 (lv_at hl 8 rfl) ?_
          obtain ⟨h5, hf⟩ := ob_d hf
          refine va_iald hx hb hK hP 1 0 rfl rfl h5 dL_least_47 ?_
          refine lv_aload_n hx hb dL_least_48 rfl (lv_at hl 2 rfl) ?_
          refine va_get (D := D) (ci := 8) (v := .int c_positions) (C := RL) (T := TL) (N := 8) hx hb hts (fun w h => mb (iL w h)) hown hK hP 0 rfl rfl 3 (by decide) (hts _ (mb tb_314)) (fun _ h9 => h9) rfl dL_least_49 ?_
          obtain ⟨h6, hf⟩ := ob_z hf
          refine lv_irem hx hb dL_least_52 h6 ?_
          refine lv_iconst (v := 1) hx hb dL_least_53 (by decide) ?_
          refine lv_iadd hx hb dL_least_54 ?_
          refine lv_istore (lv' := [(9, .int (((cp1 n7.toNatClampNeg) - (cp1 n7.toNatClampNeg) / c_positions * c_positions) + 1)), (8, .int ((cp1 n7.toNatClampNeg) / c_positions)), (6, .int 0), (0, .ref a0), (1, .ref ap1), (2, .int n2), (3, .int n3), (4, .int n4), (5, .int n5), (7, .int n7)]) hx hb dL_least_55 hl (by decide) rfl (fun ls hl => ?_)
          refine lv_iload hx hb dL_least_57 (lv_at hl 8 rfl) ?_
          refine lv_aload_n hx hb dL_least_59 rfl (lv_at hl 3 rfl) ?_
          refine lv_iload_n hx hb dL_least_60 rfl (lv_at hl 6 rfl) ?_
          refine lv_iload hx hb dL_least_61 (lv_at hl 7 rfl) ?_
          refine lv_iload hx hb dL_least_63 (lv_at hl 1 rfl) ?_
          refine lv_iload hx hb dL_least_65 (lv_at hl 0 rfl) ?_
          obtain ⟨r7, hc8, hf⟩ := ob1 hf
          refine ro_calli (r := r7) (va_runV (As := [.int n3, .int n4, .int ((cp1 n7.toNatClampNeg) / c_positions), .int (((cp1 n7.toNatClampNeg) - (cp1 n7.toNatClampNeg) / c_positions * c_positions) + 1)]) (rest := [.int n5]) ⟨hx, hb, hml, hown, hts⟩ (k_L_between l hl0 D cI cJ cZ cS B0 H a0 a_o a_d c_lanes c_positions c_gap c_products c_lots c_orders n3 n4 ((cp1 n7.toNatClampNeg) / c_positions) (((cp1 n7.toNatClampNeg) - (cp1 n7.toNatClampNeg) / c_positions * c_positions) + 1) r7 hc8) (cwV 4 hts (gV tb_798 tb_800 ts_28 tb_0 tb_801) rfl rfl rfl (by decide +kernel) ⟨Nat.le_of_ble_eq_true rfl, Nat.le_of_ble_eq_true rfl⟩) ⟨rp_blind, va_recv hK hP (ci := 8) (q0 := 0) rfl rfl, rp_pre (hP.sub [0] rfl) hK (hBn _ _ hS) (hEn _ _ hS)⟩ rfl rfl hl.1 rfl (lv_room (Nat.le_of_ble_eq_true rfl)) dL_least_67 ⟨Nat.le_of_ble_eq_true rfl, Nat.le_of_ble_eq_true rfl⟩) ?_
          refine lv_aload_n hx hb dL_least_70 rfl (lv_at hl 3 rfl) ?_
          refine lv_aload_n hx hb dL_least_71 rfl (lv_at hl 4 rfl) ?_
          refine lv_iload_n hx hb dL_least_72 rfl (lv_at hl 5 rfl) ?_
          refine lv_iconst (v := 1) hx hb dL_least_73 (by decide) ?_
          refine lv_iload hx hb dL_least_74 (lv_at hl 9 rfl) ?_
          refine lv_ishl hx hb dL_least_76 ?_
          refine lv_ior hx hb dL_least_77 ?_
          refine lv_iload hx hb dL_least_78 (lv_at hl 1 rfl) ?_
          refine lv_iload hx hb dL_least_80 (lv_at hl 0 rfl) ?_
          obtain ⟨r9, hc10, hf⟩ := ob1 hf
          refine ro_calli (r := r9) (va_runV (As := [.ref ap1, .int (n2 ||| (1 <<< (n7 &&& 31))), .int ((cp1 n7.toNatClampNeg) / c_positions), .int (((cp1 n7.toNatClampNeg) - (cp1 n7.toNatClampNeg) / c_positions * c_positions) + 1)]) (rest := [.int r7, .int n5]) ⟨hx, hb, hml, hown, hts⟩ (k_L_least2 l hl0 D cI cJ cZ cS B0 H a0 a_o a_d ap1 c_lanes c_positions c_gap c_products c_lots c_orders cp1_len cp1 (n2 ||| (1 <<< (n7 &&& 31))) ((cp1 n7.toNatClampNeg) / c_positions) (((cp1 n7.toNatClampNeg) - (cp1 n7.toNatClampNeg) / c_positions * c_positions) + 1) r9 hc10) (cwV 4 hts (gV tb_793 tb_795 ts_27 tb_0 tb_796) rfl rfl rfl (by decide +kernel) ⟨Nat.le_of_ble_eq_true rfl, Nat.le_of_ble_eq_true rfl⟩) ⟨rp_blind, va_recv hK hP (ci := 8) (q0 := 0) rfl rfl, rp_pre (hP.sub [0, 1] rfl) hK (hBn _ _ hS) (hEn _ _ hS)⟩ rfl rfl hl.1 rfl (lv_room (Nat.le_of_ble_eq_true rfl)) dL_least_82 ⟨Nat.le_of_ble_eq_true rfl, Nat.le_of_ble_eq_true rfl⟩) ?_
          refine lv_iadd hx hb dL_least_85 ?_
          refine va_mmin hx hb (hml.trans hl.1.symm) hown (hts _ (mb tb_805)) (hts _ (mb tb_257)) (hts _ (mb tb_8)) (hts _ (mb wm_min)) (Nat.le_of_ble_eq_true rfl) (Nat.le_of_ble_eq_true rfl) (Nat.le_of_ble_eq_true rfl) (Nat.le_of_ble_eq_true rfl) dL_least_86 ?_
          refine lv_istore (lv' := [(5, .int (if (r7 + r9) < n5 then (r7 + r9) else n5)), (9, .int (((cp1 n7.toNatClampNeg) - (cp1 n7.toNatClampNeg) / c_positions * c_positions) + 1)), (8, .int ((cp1 n7.toNatClampNeg) / c_positions)), (6, .int 0), (0, .ref a0), (1, .ref ap1), (2, .int n2), (3, .int n3), (4, .int n4), (7, .int n7)]) hx hb dL_least_89 hl (by decide) rfl (fun ls hl => ?_)
          exact (hWW _).mp (hJ91 _ _ _ hf ls (lv_sub hl [4, 5, 6, 7, 8, 0, 3, 9] rfl))
        · have hf := ipos h2 hf
          refine lv_goto (tgt := 91) hx hb dL_least_27 (by decide) ?_
          exact (hWW _).mp (hJ91 _ _ _ hf ls (lv_sub hl [0, 1, 2, 3, 4, 5, 6, 7] rfl))
  refine (hWW _).mpr ?_
  refine lv_ldc hx hb hown (hts _ (mb tb_797)) dL_least_0 ?_
  refine lv_istore (lv' := [(5, .int 2147483647), (0, .ref a0), (1, .ref ap1), (2, .int v2), (3, .int v3), (4, .int v4)]) hx hb dL_least_2 hl (by decide) rfl (fun ls hl => ?_)
  refine lv_iconst (v := 1) hx hb dL_least_4 (by decide) ?_
  refine lv_istore (lv' := [(6, .int 1), (5, .int 2147483647), (0, .ref a0), (1, .ref ap1), (2, .int v2), (3, .int v3), (4, .int v4)]) hx hb dL_least_5 hl (by decide) rfl (fun ls hl => ?_)
  refine lv_iconst (v := 0) hx hb dL_least_7 (by decide) ?_
  refine lv_istore (lv' := [(7, .int 0), (6, .int 1), (5, .int 2147483647), (0, .ref a0), (1, .ref ap1), (2, .int v2), (3, .int v3), (4, .int v4)]) hx hb dL_least_8 hl (by decide) rfl (fun ls hl => ?_)
  obtain ⟨m12, m13, hc11, hf⟩ := ob2 hf
  refine (hWW _).mp (hL10 fu _ _ _ _ _ _ _ _ hc11 (fun ls hl => ?_) ls (lv_sub hl [3, 4, 5, 6, 7, 2, 1, 0] rfl))
  · refine (hWW _).mpr ?_
    refine lv_iload hx hb dL_least_97 (lv_at hl 4 rfl) ?_
    refine lv_if_eq (tgt := 114) hx hb dL_least_99 (by decide) (fun h14 => ?_) (fun h14 => ?_)
    · have hf := ipos h14 hf
      refine lv_iload hx hb dL_least_114 (lv_at hl 3 rfl) ?_
      cases hf
      exact W.iret hx hb hr (fun t ht hW => ⟨⟨_, (), rfl, rfl, (ht.trans hHe)⟩, hS.F ht⟩) hS.2.2 dL_least_116
    · have hf := ineg h14 hf
      refine lv_aload_n hx hb dL_least_102 rfl (lv_at hl 0 rfl) ?_
      refine lv_iload_n hx hb dL_least_103 rfl (lv_at hl 1 rfl) ?_
      refine lv_iload hx hb dL_least_104 (lv_at hl 2 rfl) ?_
      refine lv_iconst (v := 0) hx hb dL_least_106 (by decide) ?_
      refine lv_iconst (v := 0) hx hb dL_least_107 (by decide) ?_
      obtain ⟨r15, hc16, hf⟩ := ob1 hf
      refine ro_calli (r := r15) (va_runV (As := [.int v3, .int v4, .int 0, .int 0]) (rest := []) ⟨hx, hb, hml, hown, hts⟩ (k_L_between l hl0 D cI cJ cZ cS B0 H a0 a_o a_d c_lanes c_positions c_gap c_products c_lots c_orders v3 v4 0 0 r15 hc16) (cwV 4 hts (gV tb_798 tb_800 ts_28 tb_0 tb_801) rfl rfl rfl (by decide +kernel) ⟨Nat.le_of_ble_eq_true rfl, Nat.le_of_ble_eq_true rfl⟩) ⟨rp_blind, va_recv hK hP (ci := 8) (q0 := 0) rfl rfl, rp_pre (hP.sub [0] rfl) hK (hBn _ _ hS) (hEn _ _ hS)⟩ rfl rfl hl.1 rfl (lv_room (Nat.le_of_ble_eq_true rfl)) dL_least_108 ⟨Nat.le_of_ble_eq_true rfl, Nat.le_of_ble_eq_true rfl⟩) ?_
      refine lv_goto (tgt := 116) hx hb dL_least_111 (by decide) ?_
      cases hf
      exact W.iret hx hb hr (fun t ht hW => ⟨⟨_, (), rfl, rfl, (ht.trans hHe)⟩, hS.F ht⟩) hS.2.2 dL_least_116
def f_L_least4_L10_J91 (n2 : Int32) (n3 : Int32) (n4 : Int32) (n5 : Int32) (n6 : Int32) (n7 : Int32) (c_positions : Int32) (c_gap : Int32) (cp1_len : Nat) (cp1 : Nat → Int32) : Option ((Int32 × Int32 × Int32) ⊕ (Int32 × Int32)) :=
  some (.inl (n5, n6, n7 + 1))
def f_L_least4_L10 (n2 : Int32) (n3 : Int32) (n4 : Int32) (c_positions : Int32) (c_gap : Int32) (cp1_len : Nat) (cp1 : Nat → Int32) (n5 : Int32) (n6 : Int32) (n7 : Int32) : Option ((Int32 × Int32 × Int32) ⊕ (Int32 × Int32)) :=
  (if (Int32.ofNat cp1_len) ≤ n7 then some (.inr (n5, n6))
  else (if ((n2 >>> (n7 &&& 31)) &&& 1) = 1 then f_L_least4_L10_J91 n2 n3 n4 n5 n6 n7 c_positions c_gap cp1_len cp1
  else gd n7 cp1_len (gz c_positions (gd n7 cp1_len (gz c_positions (bnd1 (f_L_between n3 n4 ((cp1 n7.toNatClampNeg) / c_positions) (((cp1 n7.toNatClampNeg) - (cp1 n7.toNatClampNeg) / c_positions * c_positions) + 1) c_positions c_gap) (fun r7 =>
  (bnd1 (f_L_least3 (n2 ||| (1 <<< (n7 &&& 31))) ((cp1 n7.toNatClampNeg) / c_positions) (((cp1 n7.toNatClampNeg) - (cp1 n7.toNatClampNeg) / c_positions * c_positions) + 1) c_positions c_gap cp1_len cp1) (fun r9 =>
  (f_L_least4_L10_J91 n2 n3 n4 (if (r7 + r9) < n5 then (r7 + r9) else n5) 0 n7 c_positions c_gap cp1_len cp1))))))))))
def f_L_least4 (v2 : Int32) (v3 : Int32) (v4 : Int32) (c_positions : Int32) (c_gap : Int32) (cp1_len : Nat) (cp1 : Nat → Int32) : Option (Int32) :=
  (bnd2 (loop (fun z => f_L_least4_L10 v2 v3 v4 c_positions c_gap cp1_len cp1 z.1 z.2.1 z.2.2) fu (2147483647, 1, 0)) fun m12 m13 =>
  (if m13 = 0 then some m12
  else bnd1 (f_L_between v3 v4 0 0 c_positions c_gap) (fun r15 =>
  (some r15))))
set_option maxHeartbeats 4000000 in
set_option maxRecDepth 100000 in
theorem k_L_least4 (l : Launch) (hl0 : l.stackTraces = false) (D : va_G) (cI cJ cZ cS : ClassId) (B0 : Nat) (H0 : Heap) (a0 a_o a_d ap1 : Nat) (c_lanes : Int32) (c_positions : Int32) (c_gap : Int32) (c_products : Int32) (c_lots : Int32) (c_orders : Int32) (cp1_len : Nat) (cp1 : Nat → Int32) (v2 : Int32) (v3 : Int32) (v4 : Int32) (r9 : Int32)  (hf : f_L_least4 v2 v3 v4 c_positions c_gap cp1_len cp1 = some r9) : Met l yL_least (wz yL_least cL_least 10 (some .int)) ({ frames := 5, cells := 0, slots := 0, locals := 176 }) (va_Pc [.ref a0, .ref ap1, .int v2, .int v3, .int v4] (rp D cI cJ cZ cS B0 [oL a0 a_o a_d c_lanes c_positions c_gap c_products c_lots c_orders, rI cI ap1 cp1_len cp1] H0)) (va_Qi (fun (r2 : Int32) (_ : Unit) => r2 = r9) (fun _ t => t.heap = H0) (fun q => H0.size ≤ q)) 0 0 (fun q => H0.size ≤ q) := by
  refine Met.ofW (cc := cL_least) (maxL := 10) (ret := (some .int)) (by decide) rfl ?_
  intro p e s m args below meth c s₁ B hml hv
  obtain ⟨rfl, hH, hP, hK, hB0, hE⟩ := hv
  subst hH
  have hx := B.exec
  have hb := B.bytes
  have hr := B.returns
  have hts := atoms_spec (ws := (wz yL_least cL_least 10 (some .int))) B.pre
  have hown : s.vm.findClass RL = some m.cls := findClass_of_methodNamed B.named
  have hlocks := B.notSynchronized
  have hAB : ∀ q : Nat, s.heap.size ≤ q → B0 ≤ q := fun q h => Nat.le_trans hB0 h
  have hA : ∀ q : Nat, s.heap.size ≤ q → s.heap.size ≤ q := fun _ h => h
  have hS : va_S (fun q => s.heap.size ≤ q) s.heap s.heap [] := va_S.rf
  have hBn := fun (H : Heap) (locs : List Loc) (h : va_S (fun q => s.heap.size ≤ q) s.heap H locs) => Nat.le_trans hB0 h.1
  have hEn := fun (H : Heap) (locs : List Loc) (h : va_S (fun q => s.heap.size ≤ q) s.heap H locs) => gE_now hE h hAB
  have hl := lv_entry ([.ref a0, .ref ap1, .int v2, .int v3, .int v4]) (n := 10) (Nat.le_of_ble_eq_true rfl)
  rw [lg_entry_eq]
  generalize (lg_sl ([.ref a0, .ref ap1, .int v2, .int v3, .int v4]) ++ List.replicate (10 - (lg_sl ([.ref a0, .ref ap1, .int v2, .int v3, .int v4])).length) Slot.unset).toArray = ls at hl ⊢
  have hl : lv_has ls 10 [(0, .ref a0), (1, .ref ap1), (2, .int v2), (3, .int v3), (4, .int v4)] := hl
  obtain ⟨H, hHe⟩ : ∃ H : Heap, H = s.heap := ⟨_, rfl⟩
  have hP : va_P D vwCl [oL a0 a_o a_d c_lanes c_positions c_gap c_products c_lots c_orders, rI cI ap1 cp1_len cp1] H := by rw [hHe]; exact hP
  have hS : va_S (fun q => s.heap.size ≤ q) s.heap H [] := by rw [hHe]; exact hS
  refine W_heq hHe ?_
  unfold f_L_least4 at hf
  refine gen_go (fun WW hWW => ?_)
  have hL10 : ∀ (n : Nat) (n2 : Int32) (n3 : Int32) (n4 : Int32) (n5 : Int32) (n6 : Int32) (n7 : Int32) (e5 : Int32) (e6 : Int32), loop (fun z => f_L_least4_L10 n2 n3 n4 c_positions c_gap cp1_len cp1 z.1 z.2.1 z.2.2) n (n5, n6, n7) = some (e5, e6) → (∀ (ls : Array Slot), lv_has ls 10 [(0, .ref a0), (3, .int n3), (4, .int n4), (5, .int e5), (6, .int e6)] → WW (F0 m 97 ls [])) → ∀ (ls : Array Slot), lv_has ls 10 [(0, .ref a0), (1, .ref ap1), (2, .int n2), (3, .int n3), (4, .int n4), (5, .int n5), (6, .int n6), (7, .int n7)] → WW (F0 m 10 ls []) := by
    intro n
    induction n with
    | zero =>
      intro n2 n3 n4 n5 n6 n7 e5 e6 hlp
      exact absurd hlp (by simp [loop])
    | succ n ih =>
      intro n2 n3 n4 n5 n6 n7 e5 e6 hlp K ls hl
      obtain ⟨x9, hf, hlp⟩ := loop_s hlp
      have hf : f_L_least4_L10 n2 n3 n4 c_positions c_gap cp1_len cp1 n5 n6 n7 = some x9 := hf
      unfold f_L_least4_L10 at hf
      have hJ91 : ∀ (n5 : Int32) (n6 : Int32) (n7 : Int32), f_L_least4_L10_J91 n2 n3 n4 n5 n6 n7 c_positions c_gap cp1_len cp1 = some x9 → ∀ (ls : Array Slot), lv_has ls 10 [(0, .ref a0), (1, .ref ap1), (2, .int n2), (3, .int n3), (4, .int n4), (5, .int n5), (6, .int n6), (7, .int n7)] → WW (F0 m 91 ls []) := by
        intro n5 n6 n7 hf ls hl
        unfold f_L_least4_L10_J91 at hf
        refine (hWW _).mpr ?_
        refine lv_iinc (v := (n7 + 1)) (lv' := [(7, .int (n7 + 1)), (0, .ref a0), (1, .ref ap1), (2, .int n2), (3, .int n3), (4, .int n4), (5, .int n5), (6, .int n6)]) hx hb dL_least_91 hl (k := 7) rfl rfl (by decide) rfl (fun ls hl => ?_)
        refine lv_goto (tgt := 10) hx hb dL_least_94 (by decide) ?_
        obtain rfl := Option.some.inj hf
        exact (hWW _).mp (ih _ _ _ _ _ _ _ _ hlp K ls (lv_sub hl [1, 2, 3, 4, 5, 6, 7, 0] rfl))
      refine (hWW _).mpr ?_
      refine lv_iload hx hb dL_least_10 (lv_at hl 7 rfl) ?_
      refine lv_aload_n hx hb dL_least_12 rfl (lv_at hl 1 rfl) ?_
      refine va_alen (v := (Int32.ofNat cp1_len)) hx hb hK hP 1 0 rfl rfl rfl dL_least_13 ?_
      refine lv_icmp_ge (tgt := 97) hx hb dL_least_14 (by decide) (fun h1 => ?_) (fun h1 => ?_)
      · have hf := ipos h1 hf
        obtain rfl := Option.some.inj hf
        cases lpx_r hlp
        exact (hWW _).mp (K ls (lv_sub hl [0, 3, 4, 5, 6] rfl))
      · have hf := ineg h1 hf
        refine lv_iload_n hx hb dL_least_17 rfl (lv_at hl 2 rfl) ?_
        refine lv_iload hx hb dL_least_18 (lv_at hl 7 rfl) ?_
        refine lv_ishr hx hb dL_least_20 ?_
        refine lv_iconst (v := 1) hx hb dL_least_21 (by decide) ?_
        refine lv_iand hx hb dL_least_22 ?_
        refine lv_iconst (v := 1) hx hb dL_least_23 (by decide) ?_
        refine lv_icmp_ne (tgt := 30) hx hb dL_least_24 (by decide) (fun h2 => ?_) (fun h2 => ?_)
        · have hf := ineg h2 hf
          refine lv_iconst (v := 0) hx hb dL_least_30 (by decide) ?_
          refine lv_istore (lv' := [(6, .int 0), (0, .ref a0), (1, .ref ap1), (2, .int n2), (3, .int n3), (4, .int n4), (5, .int n5), (7, .int n7)]) hx hb dL_least_31 hl (by decide) rfl (fun ls hl => ?_)
          refine lv_aload_n hx hb dL_least_33 rfl (lv_at hl 2 rfl) ?_
          refine lv_iload hx hb dL_least_34 (lv_at hl 7 rfl) ?_
          obtain ⟨h3, hf⟩ := ob_d hf
          refine va_iald hx hb hK hP 1 0 rfl rfl h3 dL_least_36 ?_
          refine lv_aload_n hx hb dL_least_37 rfl (lv_at hl 1 rfl) ?_
          refine va_get (D := D) (ci := 8) (v := .int c_positions) (C := RL) (T := TL) (N := 8) hx hb hts (fun w h => mb (iL w h)) hown hK hP 0 rfl rfl 3 (by decide) (hts _ (mb tb_314)) (fun _ h9 => h9) rfl dL_least_38 ?_
          obtain ⟨h4, hf⟩ := ob_z hf
          refine lv_idiv hx hb dL_least_41 h4 ?_
          refine lv_istore (lv' := [(8, .int ((cp1 n7.toNatClampNeg) / c_positions)), (6, .int 0), (0, .ref a0), (1, .ref ap1), (2, .int n2), (3, .int n3), (4, .int n4), (5, .int n5), (7, .int n7)]) hx hb dL_least_42 hl (by decide) rfl (fun ls hl => ?_)
          refine lv_aload_n hx hb dL_least_44 rfl (lv_at hl 3 rfl) ?_
          refine lv_iload hx hb dL_least_45 (lv_at hl 8 rfl) ?_
          obtain ⟨h5, hf⟩ := ob_d hf
          refine va_iald hx hb hK hP 1 0 rfl rfl h5 dL_least_47 ?_
          refine lv_aload_n hx hb dL_least_48 rfl (lv_at hl 2 rfl) ?_
          refine va_get (D := D) (ci := 8) (v := .int c_positions) (C := RL) (T := TL) (N := 8) hx hb hts (fun w h => mb (iL w h)) hown hK hP 0 rfl rfl 3 (by decide) (hts _ (mb tb_314)) (fun _ h9 => h9) rfl dL_least_49 ?_
          obtain ⟨h6, hf⟩ := ob_z hf
          refine lv_irem hx hb dL_least_52 h6 ?_
          refine lv_iconst (v := 1) hx hb dL_least_53 (by decide) ?_
          refine lv_iadd hx hb dL_least_54 ?_
          refine lv_istore (lv' := [(9, .int (((cp1 n7.toNatClampNeg) - (cp1 n7.toNatClampNeg) / c_positions * c_positions) + 1)), (8, .int ((cp1 n7.toNatClampNeg) / c_positions)), (6, .int 0), (0, .ref a0), (1, .ref ap1), (2, .int n2), (3, .int n3), (4, .int n4), (5, .int n5), (7, .int n7)]) hx hb dL_least_55 hl (by decide) rfl (fun ls hl => ?_)
          refine lv_iload hx hb dL_least_57 (lv_at hl 8 rfl) ?_
          refine lv_aload_n hx hb dL_least_59 rfl (lv_at hl 3 rfl) ?_
          refine lv_iload_n hx hb dL_least_60 rfl (lv_at hl 6 rfl) ?_
          refine lv_iload hx hb dL_least_61 (lv_at hl 7 rfl) ?_
          refine lv_iload hx hb dL_least_63 (lv_at hl 1 rfl) ?_
          refine lv_iload hx hb dL_least_65 (lv_at hl 0 rfl) ?_
          obtain ⟨r7, hc8, hf⟩ := ob1 hf
          refine ro_calli (r := r7) (va_runV (As := [.int n3, .int n4, .int ((cp1 n7.toNatClampNeg) / c_positions), .int (((cp1 n7.toNatClampNeg) - (cp1 n7.toNatClampNeg) / c_positions * c_positions) + 1)]) (rest := [.int n5]) ⟨hx, hb, hml, hown, hts⟩ (k_L_between l hl0 D cI cJ cZ cS B0 H a0 a_o a_d c_lanes c_positions c_gap c_products c_lots c_orders n3 n4 ((cp1 n7.toNatClampNeg) / c_positions) (((cp1 n7.toNatClampNeg) - (cp1 n7.toNatClampNeg) / c_positions * c_positions) + 1) r7 hc8) (cwV 4 hts (gV tb_798 tb_800 ts_28 tb_0 tb_801) rfl rfl rfl (by decide +kernel) ⟨Nat.le_of_ble_eq_true rfl, Nat.le_of_ble_eq_true rfl⟩) ⟨rp_blind, va_recv hK hP (ci := 8) (q0 := 0) rfl rfl, rp_pre (hP.sub [0] rfl) hK (hBn _ _ hS) (hEn _ _ hS)⟩ rfl rfl hl.1 rfl (lv_room (Nat.le_of_ble_eq_true rfl)) dL_least_67 ⟨Nat.le_of_ble_eq_true rfl, Nat.le_of_ble_eq_true rfl⟩) ?_
          refine lv_aload_n hx hb dL_least_70 rfl (lv_at hl 3 rfl) ?_
          refine lv_aload_n hx hb dL_least_71 rfl (lv_at hl 4 rfl) ?_
          refine lv_iload_n hx hb dL_least_72 rfl (lv_at hl 5 rfl) ?_
          refine lv_iconst (v := 1) hx hb dL_least_73 (by decide) ?_
          refine lv_iload hx hb dL_least_74 (lv_at hl 9 rfl) ?_
          refine lv_ishl hx hb dL_least_76 ?_
          refine lv_ior hx hb dL_least_77 ?_
          refine lv_iload hx hb dL_least_78 (lv_at hl 1 rfl) ?_
          refine lv_iload hx hb dL_least_80 (lv_at hl 0 rfl) ?_
          obtain ⟨r9, hc10, hf⟩ := ob1 hf
          refine ro_calli (r := r9) (va_runV (As := [.ref ap1, .int (n2 ||| (1 <<< (n7 &&& 31))), .int ((cp1 n7.toNatClampNeg) / c_positions), .int (((cp1 n7.toNatClampNeg) - (cp1 n7.toNatClampNeg) / c_positions * c_positions) + 1)]) (rest := [.int r7, .int n5]) ⟨hx, hb, hml, hown, hts⟩ (k_L_least3 l hl0 D cI cJ cZ cS B0 H a0 a_o a_d ap1 c_lanes c_positions c_gap c_products c_lots c_orders cp1_len cp1 (n2 ||| (1 <<< (n7 &&& 31))) ((cp1 n7.toNatClampNeg) / c_positions) (((cp1 n7.toNatClampNeg) - (cp1 n7.toNatClampNeg) / c_positions * c_positions) + 1) r9 hc10) (cwV 4 hts (gV tb_793 tb_795 ts_27 tb_0 tb_796) rfl rfl rfl (by decide +kernel) ⟨Nat.le_of_ble_eq_true rfl, Nat.le_of_ble_eq_true rfl⟩) ⟨rp_blind, va_recv hK hP (ci := 8) (q0 := 0) rfl rfl, rp_pre (hP.sub [0, 1] rfl) hK (hBn _ _ hS) (hEn _ _ hS)⟩ rfl rfl hl.1 rfl (lv_room (Nat.le_of_ble_eq_true rfl)) dL_least_82 ⟨Nat.le_of_ble_eq_true rfl, Nat.le_of_ble_eq_true rfl⟩) ?_
          refine lv_iadd hx hb dL_least_85 ?_
          refine va_mmin hx hb (hml.trans hl.1.symm) hown (hts _ (mb tb_805)) (hts _ (mb tb_257)) (hts _ (mb tb_8)) (hts _ (mb wm_min)) (Nat.le_of_ble_eq_true rfl) (Nat.le_of_ble_eq_true rfl) (Nat.le_of_ble_eq_true rfl) (Nat.le_of_ble_eq_true rfl) dL_least_86 ?_
          refine lv_istore (lv' := [(5, .int (if (r7 + r9) < n5 then (r7 + r9) else n5)), (9, .int (((cp1 n7.toNatClampNeg) - (cp1 n7.toNatClampNeg) / c_positions * c_positions) + 1)), (8, .int ((cp1 n7.toNatClampNeg) / c_positions)), (6, .int 0), (0, .ref a0), (1, .ref ap1), (2, .int n2), (3, .int n3), (4, .int n4), (7, .int n7)]) hx hb dL_least_89 hl (by decide) rfl (fun ls hl => ?_)
          exact (hWW _).mp (hJ91 _ _ _ hf ls (lv_sub hl [4, 5, 6, 7, 8, 0, 3, 9] rfl))
        · have hf := ipos h2 hf
          refine lv_goto (tgt := 91) hx hb dL_least_27 (by decide) ?_
          exact (hWW _).mp (hJ91 _ _ _ hf ls (lv_sub hl [0, 1, 2, 3, 4, 5, 6, 7] rfl))
  refine (hWW _).mpr ?_
  refine lv_ldc hx hb hown (hts _ (mb tb_797)) dL_least_0 ?_
  refine lv_istore (lv' := [(5, .int 2147483647), (0, .ref a0), (1, .ref ap1), (2, .int v2), (3, .int v3), (4, .int v4)]) hx hb dL_least_2 hl (by decide) rfl (fun ls hl => ?_)
  refine lv_iconst (v := 1) hx hb dL_least_4 (by decide) ?_
  refine lv_istore (lv' := [(6, .int 1), (5, .int 2147483647), (0, .ref a0), (1, .ref ap1), (2, .int v2), (3, .int v3), (4, .int v4)]) hx hb dL_least_5 hl (by decide) rfl (fun ls hl => ?_)
  refine lv_iconst (v := 0) hx hb dL_least_7 (by decide) ?_
  refine lv_istore (lv' := [(7, .int 0), (6, .int 1), (5, .int 2147483647), (0, .ref a0), (1, .ref ap1), (2, .int v2), (3, .int v3), (4, .int v4)]) hx hb dL_least_8 hl (by decide) rfl (fun ls hl => ?_)
  obtain ⟨m12, m13, hc11, hf⟩ := ob2 hf
  refine (hWW _).mp (hL10 fu _ _ _ _ _ _ _ _ hc11 (fun ls hl => ?_) ls (lv_sub hl [3, 4, 5, 6, 7, 2, 1, 0] rfl))
  · refine (hWW _).mpr ?_
    refine lv_iload hx hb dL_least_97 (lv_at hl 4 rfl) ?_
    refine lv_if_eq (tgt := 114) hx hb dL_least_99 (by decide) (fun h14 => ?_) (fun h14 => ?_)
    · have hf := ipos h14 hf
      refine lv_iload hx hb dL_least_114 (lv_at hl 3 rfl) ?_
      cases hf
      exact W.iret hx hb hr (fun t ht hW => ⟨⟨_, (), rfl, rfl, (ht.trans hHe)⟩, hS.F ht⟩) hS.2.2 dL_least_116
    · have hf := ineg h14 hf
      refine lv_aload_n hx hb dL_least_102 rfl (lv_at hl 0 rfl) ?_
      refine lv_iload_n hx hb dL_least_103 rfl (lv_at hl 1 rfl) ?_
      refine lv_iload hx hb dL_least_104 (lv_at hl 2 rfl) ?_
      refine lv_iconst (v := 0) hx hb dL_least_106 (by decide) ?_
      refine lv_iconst (v := 0) hx hb dL_least_107 (by decide) ?_
      obtain ⟨r15, hc16, hf⟩ := ob1 hf
      refine ro_calli (r := r15) (va_runV (As := [.int v3, .int v4, .int 0, .int 0]) (rest := []) ⟨hx, hb, hml, hown, hts⟩ (k_L_between l hl0 D cI cJ cZ cS B0 H a0 a_o a_d c_lanes c_positions c_gap c_products c_lots c_orders v3 v4 0 0 r15 hc16) (cwV 4 hts (gV tb_798 tb_800 ts_28 tb_0 tb_801) rfl rfl rfl (by decide +kernel) ⟨Nat.le_of_ble_eq_true rfl, Nat.le_of_ble_eq_true rfl⟩) ⟨rp_blind, va_recv hK hP (ci := 8) (q0 := 0) rfl rfl, rp_pre (hP.sub [0] rfl) hK (hBn _ _ hS) (hEn _ _ hS)⟩ rfl rfl hl.1 rfl (lv_room (Nat.le_of_ble_eq_true rfl)) dL_least_108 ⟨Nat.le_of_ble_eq_true rfl, Nat.le_of_ble_eq_true rfl⟩) ?_
      refine lv_goto (tgt := 116) hx hb dL_least_111 (by decide) ?_
      cases hf
      exact W.iret hx hb hr (fun t ht hW => ⟨⟨_, (), rfl, rfl, (ht.trans hHe)⟩, hS.F ht⟩) hS.2.2 dL_least_116
def f_L_least5_L10_J91 (n2 : Int32) (n3 : Int32) (n4 : Int32) (n5 : Int32) (n6 : Int32) (n7 : Int32) (c_positions : Int32) (c_gap : Int32) (cp1_len : Nat) (cp1 : Nat → Int32) : Option ((Int32 × Int32 × Int32) ⊕ (Int32 × Int32)) :=
  some (.inl (n5, n6, n7 + 1))
def f_L_least5_L10 (n2 : Int32) (n3 : Int32) (n4 : Int32) (c_positions : Int32) (c_gap : Int32) (cp1_len : Nat) (cp1 : Nat → Int32) (n5 : Int32) (n6 : Int32) (n7 : Int32) : Option ((Int32 × Int32 × Int32) ⊕ (Int32 × Int32)) :=
  (if (Int32.ofNat cp1_len) ≤ n7 then some (.inr (n5, n6))
  else (if ((n2 >>> (n7 &&& 31)) &&& 1) = 1 then f_L_least5_L10_J91 n2 n3 n4 n5 n6 n7 c_positions c_gap cp1_len cp1
  else gd n7 cp1_len (gz c_positions (gd n7 cp1_len (gz c_positions (bnd1 (f_L_between n3 n4 ((cp1 n7.toNatClampNeg) / c_positions) (((cp1 n7.toNatClampNeg) - (cp1 n7.toNatClampNeg) / c_positions * c_positions) + 1) c_positions c_gap) (fun r7 =>
  (bnd1 (f_L_least4 (n2 ||| (1 <<< (n7 &&& 31))) ((cp1 n7.toNatClampNeg) / c_positions) (((cp1 n7.toNatClampNeg) - (cp1 n7.toNatClampNeg) / c_positions * c_positions) + 1) c_positions c_gap cp1_len cp1) (fun r9 =>
  (f_L_least5_L10_J91 n2 n3 n4 (if (r7 + r9) < n5 then (r7 + r9) else n5) 0 n7 c_positions c_gap cp1_len cp1))))))))))
def f_L_least5 (v2 : Int32) (v3 : Int32) (v4 : Int32) (c_positions : Int32) (c_gap : Int32) (cp1_len : Nat) (cp1 : Nat → Int32) : Option (Int32) :=
  (bnd2 (loop (fun z => f_L_least5_L10 v2 v3 v4 c_positions c_gap cp1_len cp1 z.1 z.2.1 z.2.2) fu (2147483647, 1, 0)) fun m12 m13 =>
  (if m13 = 0 then some m12
  else bnd1 (f_L_between v3 v4 0 0 c_positions c_gap) (fun r15 =>
  (some r15))))
set_option maxHeartbeats 4000000 in
set_option maxRecDepth 100000 in
theorem k_L_least5 (l : Launch) (hl0 : l.stackTraces = false) (D : va_G) (cI cJ cZ cS : ClassId) (B0 : Nat) (H0 : Heap) (a0 a_o a_d ap1 : Nat) (c_lanes : Int32) (c_positions : Int32) (c_gap : Int32) (c_products : Int32) (c_lots : Int32) (c_orders : Int32) (cp1_len : Nat) (cp1 : Nat → Int32) (v2 : Int32) (v3 : Int32) (v4 : Int32) (r9 : Int32)  (hf : f_L_least5 v2 v3 v4 c_positions c_gap cp1_len cp1 = some r9) : Met l yL_least (wz yL_least cL_least 10 (some .int)) ({ frames := 6, cells := 0, slots := 0, locals := 205 }) (va_Pc [.ref a0, .ref ap1, .int v2, .int v3, .int v4] (rp D cI cJ cZ cS B0 [oL a0 a_o a_d c_lanes c_positions c_gap c_products c_lots c_orders, rI cI ap1 cp1_len cp1] H0)) (va_Qi (fun (r2 : Int32) (_ : Unit) => r2 = r9) (fun _ t => t.heap = H0) (fun q => H0.size ≤ q)) 0 0 (fun q => H0.size ≤ q) := by
  refine Met.ofW (cc := cL_least) (maxL := 10) (ret := (some .int)) (by decide) rfl ?_
  intro p e s m args below meth c s₁ B hml hv
  obtain ⟨rfl, hH, hP, hK, hB0, hE⟩ := hv
  subst hH
  have hx := B.exec
  have hb := B.bytes
  have hr := B.returns
  have hts := atoms_spec (ws := (wz yL_least cL_least 10 (some .int))) B.pre
  have hown : s.vm.findClass RL = some m.cls := findClass_of_methodNamed B.named
  have hlocks := B.notSynchronized
  have hAB : ∀ q : Nat, s.heap.size ≤ q → B0 ≤ q := fun q h => Nat.le_trans hB0 h
  have hA : ∀ q : Nat, s.heap.size ≤ q → s.heap.size ≤ q := fun _ h => h
  have hS : va_S (fun q => s.heap.size ≤ q) s.heap s.heap [] := va_S.rf
  have hBn := fun (H : Heap) (locs : List Loc) (h : va_S (fun q => s.heap.size ≤ q) s.heap H locs) => Nat.le_trans hB0 h.1
  have hEn := fun (H : Heap) (locs : List Loc) (h : va_S (fun q => s.heap.size ≤ q) s.heap H locs) => gE_now hE h hAB
  have hl := lv_entry ([.ref a0, .ref ap1, .int v2, .int v3, .int v4]) (n := 10) (Nat.le_of_ble_eq_true rfl)
  rw [lg_entry_eq]
  generalize (lg_sl ([.ref a0, .ref ap1, .int v2, .int v3, .int v4]) ++ List.replicate (10 - (lg_sl ([.ref a0, .ref ap1, .int v2, .int v3, .int v4])).length) Slot.unset).toArray = ls at hl ⊢
  have hl : lv_has ls 10 [(0, .ref a0), (1, .ref ap1), (2, .int v2), (3, .int v3), (4, .int v4)] := hl
  obtain ⟨H, hHe⟩ : ∃ H : Heap, H = s.heap := ⟨_, rfl⟩
  have hP : va_P D vwCl [oL a0 a_o a_d c_lanes c_positions c_gap c_products c_lots c_orders, rI cI ap1 cp1_len cp1] H := by rw [hHe]; exact hP
  have hS : va_S (fun q => s.heap.size ≤ q) s.heap H [] := by rw [hHe]; exact hS
  refine W_heq hHe ?_
  unfold f_L_least5 at hf
  refine gen_go (fun WW hWW => ?_)
  have hL10 : ∀ (n : Nat) (n2 : Int32) (n3 : Int32) (n4 : Int32) (n5 : Int32) (n6 : Int32) (n7 : Int32) (e5 : Int32) (e6 : Int32), loop (fun z => f_L_least5_L10 n2 n3 n4 c_positions c_gap cp1_len cp1 z.1 z.2.1 z.2.2) n (n5, n6, n7) = some (e5, e6) → (∀ (ls : Array Slot), lv_has ls 10 [(0, .ref a0), (3, .int n3), (4, .int n4), (5, .int e5), (6, .int e6)] → WW (F0 m 97 ls [])) → ∀ (ls : Array Slot), lv_has ls 10 [(0, .ref a0), (1, .ref ap1), (2, .int n2), (3, .int n3), (4, .int n4), (5, .int n5), (6, .int n6), (7, .int n7)] → WW (F0 m 10 ls []) := by
    intro n
    induction n with
    | zero =>
      intro n2 n3 n4 n5 n6 n7 e5 e6 hlp
      exact absurd hlp (by simp [loop])
    | succ n ih =>
      intro n2 n3 n4 n5 n6 n7 e5 e6 hlp K ls hl
      obtain ⟨x9, hf, hlp⟩ := loop_s hlp
      have hf : f_L_least5_L10 n2 n3 n4 c_positions c_gap cp1_len cp1 n5 n6 n7 = some x9 := hf
      unfold f_L_least5_L10 at hf
      have hJ91 : ∀ (n5 : Int32) (n6 : Int32) (n7 : Int32), f_L_least5_L10_J91 n2 n3 n4 n5 n6 n7 c_positions c_gap cp1_len cp1 = some x9 → ∀ (ls : Array Slot), lv_has ls 10 [(0, .ref a0), (1, .ref ap1), (2, .int n2), (3, .int n3), (4, .int n4), (5, .int n5), (6, .int n6), (7, .int n7)] → WW (F0 m 91 ls []) := by
        intro n5 n6 n7 hf ls hl
        unfold f_L_least5_L10_J91 at hf
        refine (hWW _).mpr ?_
        refine lv_iinc (v := (n7 + 1)) (lv' := [(7, .int (n7 + 1)), (0, .ref a0), (1, .ref ap1), (2, .int n2), (3, .int n3), (4, .int n4), (5, .int n5), (6, .int n6)]) hx hb dL_least_91 hl (k := 7) rfl rfl (by decide) rfl (fun ls hl => ?_)
        refine lv_goto (tgt := 10) hx hb dL_least_94 (by decide) ?_
        obtain rfl := Option.some.inj hf
        exact (hWW _).mp (ih _ _ _ _ _ _ _ _ hlp K ls (lv_sub hl [1, 2, 3, 4, 5, 6, 7, 0] rfl))
      refine (hWW _).mpr ?_
      refine lv_iload hx hb dL_least_10 (lv_at hl 7 rfl) ?_
      refine lv_aload_n hx hb dL_least_12 rfl (lv_at hl 1 rfl) ?_
      refine va_alen (v := (Int32.ofNat cp1_len)) hx hb hK hP 1 0 rfl rfl rfl dL_least_13 ?_
      refine lv_icmp_ge (tgt := 97) hx hb dL_least_14 (by decide) (fun h1 => ?_) (fun h1 => ?_)
      · have hf := ipos h1 hf
        obtain rfl := Option.some.inj hf
        cases lpx_r hlp
        exact (hWW _).mp (K ls (lv_sub hl [0, 3, 4, 5, 6] rfl))
      · have hf := ineg h1 hf
        refine lv_iload_n hx hb dL_least_17 rfl (lv_at hl 2 rfl) ?_
        refine lv_iload hx hb dL_least_18 (lv_at hl 7 rfl) ?_
        refine lv_ishr hx hb dL_least_20 ?_
        refine lv_iconst (v := 1) hx hb dL_least_21 (by decide) ?_
        refine lv_iand hx hb dL_least_22 ?_
        refine lv_iconst (v := 1) hx hb dL_least_23 (by decide) ?_
        refine lv_icmp_ne (tgt := 30) hx hb dL_least_24 (by decide) (fun h2 => ?_) (fun h2 => ?_)
        · have hf := ineg h2 hf
          refine lv_iconst (v := 0) hx hb dL_least_30 (by decide) ?_
          refine lv_istore (lv' := [(6, .int 0), (0, .ref a0), (1, .ref ap1), (2, .int n2), (3, .int n3), (4, .int n4), (5, .int n5), (7, .int n7)]) hx hb dL_least_31 hl (by decide) rfl (fun ls hl => ?_)
          refine lv_aload_n hx hb dL_least_33 rfl (lv_at hl 2 rfl) ?_
          refine lv_iload hx hb dL_least_34 (lv_at hl 7 rfl) ?_
          obtain ⟨h3, hf⟩ := ob_d hf
          refine va_iald hx hb hK hP 1 0 rfl rfl h3 dL_least_36 ?_
          refine lv_aload_n hx hb dL_least_37 rfl (lv_at hl 1 rfl) ?_
          refine va_get (D := D) (ci := 8) (v := .int c_positions) (C := RL) (T := TL) (N := 8) hx hb hts (fun w h => mb (iL w h)) hown hK hP 0 rfl rfl 3 (by decide) (hts _ (mb tb_314)) (fun _ h9 => h9) rfl dL_least_38 ?_
          obtain ⟨h4, hf⟩ := ob_z hf
          refine lv_idiv hx hb dL_least_41 h4 ?_
          refine lv_istore (lv' := [(8, .int ((cp1 n7.toNatClampNeg) / c_positions)), (6, .int 0), (0, .ref a0), (1, .ref ap1), (2, .int n2), (3, .int n3), (4, .int n4), (5, .int n5), (7, .int n7)]) hx hb dL_least_42 hl (by decide) rfl (fun ls hl => ?_)
          refine lv_aload_n hx hb dL_least_44 rfl (lv_at hl 3 rfl) ?_
          refine lv_iload hx hb dL_least_45 (lv_at hl 8 rfl) ?_
          obtain ⟨h5, hf⟩ := ob_d hf
          refine va_iald hx hb hK hP 1 0 rfl rfl h5 dL_least_47 ?_
          refine lv_aload_n hx hb dL_least_48 rfl (lv_at hl 2 rfl) ?_
          refine va_get (D := D) (ci := 8) (v := .int c_positions) (C := RL) (T := TL) (N := 8) hx hb hts (fun w h => mb (iL w h)) hown hK hP 0 rfl rfl 3 (by decide) (hts _ (mb tb_314)) (fun _ h9 => h9) rfl dL_least_49 ?_
          obtain ⟨h6, hf⟩ := ob_z hf
          refine lv_irem hx hb dL_least_52 h6 ?_
          refine lv_iconst (v := 1) hx hb dL_least_53 (by decide) ?_
          refine lv_iadd hx hb dL_least_54 ?_
          refine lv_istore (lv' := [(9, .int (((cp1 n7.toNatClampNeg) - (cp1 n7.toNatClampNeg) / c_positions * c_positions) + 1)), (8, .int ((cp1 n7.toNatClampNeg) / c_positions)), (6, .int 0), (0, .ref a0), (1, .ref ap1), (2, .int n2), (3, .int n3), (4, .int n4), (5, .int n5), (7, .int n7)]) hx hb dL_least_55 hl (by decide) rfl (fun ls hl => ?_)
          refine lv_iload hx hb dL_least_57 (lv_at hl 8 rfl) ?_
          refine lv_aload_n hx hb dL_least_59 rfl (lv_at hl 3 rfl) ?_
          refine lv_iload_n hx hb dL_least_60 rfl (lv_at hl 6 rfl) ?_
          refine lv_iload hx hb dL_least_61 (lv_at hl 7 rfl) ?_
          refine lv_iload hx hb dL_least_63 (lv_at hl 1 rfl) ?_
          refine lv_iload hx hb dL_least_65 (lv_at hl 0 rfl) ?_
          obtain ⟨r7, hc8, hf⟩ := ob1 hf
          refine ro_calli (r := r7) (va_runV (As := [.int n3, .int n4, .int ((cp1 n7.toNatClampNeg) / c_positions), .int (((cp1 n7.toNatClampNeg) - (cp1 n7.toNatClampNeg) / c_positions * c_positions) + 1)]) (rest := [.int n5]) ⟨hx, hb, hml, hown, hts⟩ (k_L_between l hl0 D cI cJ cZ cS B0 H a0 a_o a_d c_lanes c_positions c_gap c_products c_lots c_orders n3 n4 ((cp1 n7.toNatClampNeg) / c_positions) (((cp1 n7.toNatClampNeg) - (cp1 n7.toNatClampNeg) / c_positions * c_positions) + 1) r7 hc8) (cwV 4 hts (gV tb_798 tb_800 ts_28 tb_0 tb_801) rfl rfl rfl (by decide +kernel) ⟨Nat.le_of_ble_eq_true rfl, Nat.le_of_ble_eq_true rfl⟩) ⟨rp_blind, va_recv hK hP (ci := 8) (q0 := 0) rfl rfl, rp_pre (hP.sub [0] rfl) hK (hBn _ _ hS) (hEn _ _ hS)⟩ rfl rfl hl.1 rfl (lv_room (Nat.le_of_ble_eq_true rfl)) dL_least_67 ⟨Nat.le_of_ble_eq_true rfl, Nat.le_of_ble_eq_true rfl⟩) ?_
          refine lv_aload_n hx hb dL_least_70 rfl (lv_at hl 3 rfl) ?_
          refine lv_aload_n hx hb dL_least_71 rfl (lv_at hl 4 rfl) ?_
          refine lv_iload_n hx hb dL_least_72 rfl (lv_at hl 5 rfl) ?_
          refine lv_iconst (v := 1) hx hb dL_least_73 (by decide) ?_
          refine lv_iload hx hb dL_least_74 (lv_at hl 9 rfl) ?_
          refine lv_ishl hx hb dL_least_76 ?_
          refine lv_ior hx hb dL_least_77 ?_
          refine lv_iload hx hb dL_least_78 (lv_at hl 1 rfl) ?_
          refine lv_iload hx hb dL_least_80 (lv_at hl 0 rfl) ?_
          obtain ⟨r9, hc10, hf⟩ := ob1 hf
          refine ro_calli (r := r9) (va_runV (As := [.ref ap1, .int (n2 ||| (1 <<< (n7 &&& 31))), .int ((cp1 n7.toNatClampNeg) / c_positions), .int (((cp1 n7.toNatClampNeg) - (cp1 n7.toNatClampNeg) / c_positions * c_positions) + 1)]) (rest := [.int r7, .int n5]) ⟨hx, hb, hml, hown, hts⟩ (k_L_least4 l hl0 D cI cJ cZ cS B0 H a0 a_o a_d ap1 c_lanes c_positions c_gap c_products c_lots c_orders cp1_len cp1 (n2 ||| (1 <<< (n7 &&& 31))) ((cp1 n7.toNatClampNeg) / c_positions) (((cp1 n7.toNatClampNeg) - (cp1 n7.toNatClampNeg) / c_positions * c_positions) + 1) r9 hc10) (cwV 4 hts (gV tb_793 tb_795 ts_27 tb_0 tb_796) rfl rfl rfl (by decide +kernel) ⟨Nat.le_of_ble_eq_true rfl, Nat.le_of_ble_eq_true rfl⟩) ⟨rp_blind, va_recv hK hP (ci := 8) (q0 := 0) rfl rfl, rp_pre (hP.sub [0, 1] rfl) hK (hBn _ _ hS) (hEn _ _ hS)⟩ rfl rfl hl.1 rfl (lv_room (Nat.le_of_ble_eq_true rfl)) dL_least_82 ⟨Nat.le_of_ble_eq_true rfl, Nat.le_of_ble_eq_true rfl⟩) ?_
          refine lv_iadd hx hb dL_least_85 ?_
          refine va_mmin hx hb (hml.trans hl.1.symm) hown (hts _ (mb tb_805)) (hts _ (mb tb_257)) (hts _ (mb tb_8)) (hts _ (mb wm_min)) (Nat.le_of_ble_eq_true rfl) (Nat.le_of_ble_eq_true rfl) (Nat.le_of_ble_eq_true rfl) (Nat.le_of_ble_eq_true rfl) dL_least_86 ?_
          refine lv_istore (lv' := [(5, .int (if (r7 + r9) < n5 then (r7 + r9) else n5)), (9, .int (((cp1 n7.toNatClampNeg) - (cp1 n7.toNatClampNeg) / c_positions * c_positions) + 1)), (8, .int ((cp1 n7.toNatClampNeg) / c_positions)), (6, .int 0), (0, .ref a0), (1, .ref ap1), (2, .int n2), (3, .int n3), (4, .int n4), (7, .int n7)]) hx hb dL_least_89 hl (by decide) rfl (fun ls hl => ?_)
          exact (hWW _).mp (hJ91 _ _ _ hf ls (lv_sub hl [4, 5, 6, 7, 8, 0, 3, 9] rfl))
        · have hf := ipos h2 hf
          refine lv_goto (tgt := 91) hx hb dL_least_27 (by decide) ?_
          exact (hWW _).mp (hJ91 _ _ _ hf ls (lv_sub hl [0, 1, 2, 3, 4, 5, 6, 7] rfl))
  refine (hWW _).mpr ?_
  refine lv_ldc hx hb hown (hts _ (mb tb_797)) dL_least_0 ?_
  refine lv_istore (lv' := [(5, .int 2147483647), (0, .ref a0), (1, .ref ap1), (2, .int v2), (3, .int v3), (4, .int v4)]) hx hb dL_least_2 hl (by decide) rfl (fun ls hl => ?_)
  refine lv_iconst (v := 1) hx hb dL_least_4 (by decide) ?_
  refine lv_istore (lv' := [(6, .int 1), (5, .int 2147483647), (0, .ref a0), (1, .ref ap1), (2, .int v2), (3, .int v3), (4, .int v4)]) hx hb dL_least_5 hl (by decide) rfl (fun ls hl => ?_)
  refine lv_iconst (v := 0) hx hb dL_least_7 (by decide) ?_
  refine lv_istore (lv' := [(7, .int 0), (6, .int 1), (5, .int 2147483647), (0, .ref a0), (1, .ref ap1), (2, .int v2), (3, .int v3), (4, .int v4)]) hx hb dL_least_8 hl (by decide) rfl (fun ls hl => ?_)
  obtain ⟨m12, m13, hc11, hf⟩ := ob2 hf
  refine (hWW _).mp (hL10 fu _ _ _ _ _ _ _ _ hc11 (fun ls hl => ?_) ls (lv_sub hl [3, 4, 5, 6, 7, 2, 1, 0] rfl))
  · refine (hWW _).mpr ?_
    refine lv_iload hx hb dL_least_97 (lv_at hl 4 rfl) ?_
    refine lv_if_eq (tgt := 114) hx hb dL_least_99 (by decide) (fun h14 => ?_) (fun h14 => ?_)
    · have hf := ipos h14 hf
      refine lv_iload hx hb dL_least_114 (lv_at hl 3 rfl) ?_
      cases hf
      exact W.iret hx hb hr (fun t ht hW => ⟨⟨_, (), rfl, rfl, (ht.trans hHe)⟩, hS.F ht⟩) hS.2.2 dL_least_116
    · have hf := ineg h14 hf
      refine lv_aload_n hx hb dL_least_102 rfl (lv_at hl 0 rfl) ?_
      refine lv_iload_n hx hb dL_least_103 rfl (lv_at hl 1 rfl) ?_
      refine lv_iload hx hb dL_least_104 (lv_at hl 2 rfl) ?_
      refine lv_iconst (v := 0) hx hb dL_least_106 (by decide) ?_
      refine lv_iconst (v := 0) hx hb dL_least_107 (by decide) ?_
      obtain ⟨r15, hc16, hf⟩ := ob1 hf
      refine ro_calli (r := r15) (va_runV (As := [.int v3, .int v4, .int 0, .int 0]) (rest := []) ⟨hx, hb, hml, hown, hts⟩ (k_L_between l hl0 D cI cJ cZ cS B0 H a0 a_o a_d c_lanes c_positions c_gap c_products c_lots c_orders v3 v4 0 0 r15 hc16) (cwV 4 hts (gV tb_798 tb_800 ts_28 tb_0 tb_801) rfl rfl rfl (by decide +kernel) ⟨Nat.le_of_ble_eq_true rfl, Nat.le_of_ble_eq_true rfl⟩) ⟨rp_blind, va_recv hK hP (ci := 8) (q0 := 0) rfl rfl, rp_pre (hP.sub [0] rfl) hK (hBn _ _ hS) (hEn _ _ hS)⟩ rfl rfl hl.1 rfl (lv_room (Nat.le_of_ble_eq_true rfl)) dL_least_108 ⟨Nat.le_of_ble_eq_true rfl, Nat.le_of_ble_eq_true rfl⟩) ?_
      refine lv_goto (tgt := 116) hx hb dL_least_111 (by decide) ?_
      cases hf
      exact W.iret hx hb hr (fun t ht hW => ⟨⟨_, (), rfl, rfl, (ht.trans hHe)⟩, hS.F ht⟩) hS.2.2 dL_least_116
def f_L_least6_L10_J91 (n2 : Int32) (n3 : Int32) (n4 : Int32) (n5 : Int32) (n6 : Int32) (n7 : Int32) (c_positions : Int32) (c_gap : Int32) (cp1_len : Nat) (cp1 : Nat → Int32) : Option ((Int32 × Int32 × Int32) ⊕ (Int32 × Int32)) :=
  some (.inl (n5, n6, n7 + 1))
def f_L_least6_L10 (n2 : Int32) (n3 : Int32) (n4 : Int32) (c_positions : Int32) (c_gap : Int32) (cp1_len : Nat) (cp1 : Nat → Int32) (n5 : Int32) (n6 : Int32) (n7 : Int32) : Option ((Int32 × Int32 × Int32) ⊕ (Int32 × Int32)) :=
  (if (Int32.ofNat cp1_len) ≤ n7 then some (.inr (n5, n6))
  else (if ((n2 >>> (n7 &&& 31)) &&& 1) = 1 then f_L_least6_L10_J91 n2 n3 n4 n5 n6 n7 c_positions c_gap cp1_len cp1
  else gd n7 cp1_len (gz c_positions (gd n7 cp1_len (gz c_positions (bnd1 (f_L_between n3 n4 ((cp1 n7.toNatClampNeg) / c_positions) (((cp1 n7.toNatClampNeg) - (cp1 n7.toNatClampNeg) / c_positions * c_positions) + 1) c_positions c_gap) (fun r7 =>
  (bnd1 (f_L_least5 (n2 ||| (1 <<< (n7 &&& 31))) ((cp1 n7.toNatClampNeg) / c_positions) (((cp1 n7.toNatClampNeg) - (cp1 n7.toNatClampNeg) / c_positions * c_positions) + 1) c_positions c_gap cp1_len cp1) (fun r9 =>
  (f_L_least6_L10_J91 n2 n3 n4 (if (r7 + r9) < n5 then (r7 + r9) else n5) 0 n7 c_positions c_gap cp1_len cp1))))))))))
def f_L_least6 (v2 : Int32) (v3 : Int32) (v4 : Int32) (c_positions : Int32) (c_gap : Int32) (cp1_len : Nat) (cp1 : Nat → Int32) : Option (Int32) :=
  (bnd2 (loop (fun z => f_L_least6_L10 v2 v3 v4 c_positions c_gap cp1_len cp1 z.1 z.2.1 z.2.2) fu (2147483647, 1, 0)) fun m12 m13 =>
  (if m13 = 0 then some m12
  else bnd1 (f_L_between v3 v4 0 0 c_positions c_gap) (fun r15 =>
  (some r15))))
set_option maxHeartbeats 4000000 in
set_option maxRecDepth 100000 in
theorem k_L_least6 (l : Launch) (hl0 : l.stackTraces = false) (D : va_G) (cI cJ cZ cS : ClassId) (B0 : Nat) (H0 : Heap) (a0 a_o a_d ap1 : Nat) (c_lanes : Int32) (c_positions : Int32) (c_gap : Int32) (c_products : Int32) (c_lots : Int32) (c_orders : Int32) (cp1_len : Nat) (cp1 : Nat → Int32) (v2 : Int32) (v3 : Int32) (v4 : Int32) (r9 : Int32)  (hf : f_L_least6 v2 v3 v4 c_positions c_gap cp1_len cp1 = some r9) : Met l yL_least (wz yL_least cL_least 10 (some .int)) ({ frames := 7, cells := 0, slots := 0, locals := 234 }) (va_Pc [.ref a0, .ref ap1, .int v2, .int v3, .int v4] (rp D cI cJ cZ cS B0 [oL a0 a_o a_d c_lanes c_positions c_gap c_products c_lots c_orders, rI cI ap1 cp1_len cp1] H0)) (va_Qi (fun (r2 : Int32) (_ : Unit) => r2 = r9) (fun _ t => t.heap = H0) (fun q => H0.size ≤ q)) 0 0 (fun q => H0.size ≤ q) := by
  refine Met.ofW (cc := cL_least) (maxL := 10) (ret := (some .int)) (by decide) rfl ?_
  intro p e s m args below meth c s₁ B hml hv
  obtain ⟨rfl, hH, hP, hK, hB0, hE⟩ := hv
  subst hH
  have hx := B.exec
  have hb := B.bytes
  have hr := B.returns
  have hts := atoms_spec (ws := (wz yL_least cL_least 10 (some .int))) B.pre
  have hown : s.vm.findClass RL = some m.cls := findClass_of_methodNamed B.named
  have hlocks := B.notSynchronized
  have hAB : ∀ q : Nat, s.heap.size ≤ q → B0 ≤ q := fun q h => Nat.le_trans hB0 h
  have hA : ∀ q : Nat, s.heap.size ≤ q → s.heap.size ≤ q := fun _ h => h
  have hS : va_S (fun q => s.heap.size ≤ q) s.heap s.heap [] := va_S.rf
  have hBn := fun (H : Heap) (locs : List Loc) (h : va_S (fun q => s.heap.size ≤ q) s.heap H locs) => Nat.le_trans hB0 h.1
  have hEn := fun (H : Heap) (locs : List Loc) (h : va_S (fun q => s.heap.size ≤ q) s.heap H locs) => gE_now hE h hAB
  have hl := lv_entry ([.ref a0, .ref ap1, .int v2, .int v3, .int v4]) (n := 10) (Nat.le_of_ble_eq_true rfl)
  rw [lg_entry_eq]
  generalize (lg_sl ([.ref a0, .ref ap1, .int v2, .int v3, .int v4]) ++ List.replicate (10 - (lg_sl ([.ref a0, .ref ap1, .int v2, .int v3, .int v4])).length) Slot.unset).toArray = ls at hl ⊢
  have hl : lv_has ls 10 [(0, .ref a0), (1, .ref ap1), (2, .int v2), (3, .int v3), (4, .int v4)] := hl
  obtain ⟨H, hHe⟩ : ∃ H : Heap, H = s.heap := ⟨_, rfl⟩
  have hP : va_P D vwCl [oL a0 a_o a_d c_lanes c_positions c_gap c_products c_lots c_orders, rI cI ap1 cp1_len cp1] H := by rw [hHe]; exact hP
  have hS : va_S (fun q => s.heap.size ≤ q) s.heap H [] := by rw [hHe]; exact hS
  refine W_heq hHe ?_
  unfold f_L_least6 at hf
  refine gen_go (fun WW hWW => ?_)
  have hL10 : ∀ (n : Nat) (n2 : Int32) (n3 : Int32) (n4 : Int32) (n5 : Int32) (n6 : Int32) (n7 : Int32) (e5 : Int32) (e6 : Int32), loop (fun z => f_L_least6_L10 n2 n3 n4 c_positions c_gap cp1_len cp1 z.1 z.2.1 z.2.2) n (n5, n6, n7) = some (e5, e6) → (∀ (ls : Array Slot), lv_has ls 10 [(0, .ref a0), (3, .int n3), (4, .int n4), (5, .int e5), (6, .int e6)] → WW (F0 m 97 ls [])) → ∀ (ls : Array Slot), lv_has ls 10 [(0, .ref a0), (1, .ref ap1), (2, .int n2), (3, .int n3), (4, .int n4), (5, .int n5), (6, .int n6), (7, .int n7)] → WW (F0 m 10 ls []) := by
    intro n
    induction n with
    | zero =>
      intro n2 n3 n4 n5 n6 n7 e5 e6 hlp
      exact absurd hlp (by simp [loop])
    | succ n ih =>
      intro n2 n3 n4 n5 n6 n7 e5 e6 hlp K ls hl
      obtain ⟨x9, hf, hlp⟩ := loop_s hlp
      have hf : f_L_least6_L10 n2 n3 n4 c_positions c_gap cp1_len cp1 n5 n6 n7 = some x9 := hf
      unfold f_L_least6_L10 at hf
      have hJ91 : ∀ (n5 : Int32) (n6 : Int32) (n7 : Int32), f_L_least6_L10_J91 n2 n3 n4 n5 n6 n7 c_positions c_gap cp1_len cp1 = some x9 → ∀ (ls : Array Slot), lv_has ls 10 [(0, .ref a0), (1, .ref ap1), (2, .int n2), (3, .int n3), (4, .int n4), (5, .int n5), (6, .int n6), (7, .int n7)] → WW (F0 m 91 ls []) := by
        intro n5 n6 n7 hf ls hl
        unfold f_L_least6_L10_J91 at hf
        refine (hWW _).mpr ?_
        refine lv_iinc (v := (n7 + 1)) (lv' := [(7, .int (n7 + 1)), (0, .ref a0), (1, .ref ap1), (2, .int n2), (3, .int n3), (4, .int n4), (5, .int n5), (6, .int n6)]) hx hb dL_least_91 hl (k := 7) rfl rfl (by decide) rfl (fun ls hl => ?_)
        refine lv_goto (tgt := 10) hx hb dL_least_94 (by decide) ?_
        obtain rfl := Option.some.inj hf
        exact (hWW _).mp (ih _ _ _ _ _ _ _ _ hlp K ls (lv_sub hl [1, 2, 3, 4, 5, 6, 7, 0] rfl))
      refine (hWW _).mpr ?_
      refine lv_iload hx hb dL_least_10 (lv_at hl 7 rfl) ?_
      refine lv_aload_n hx hb dL_least_12 rfl (lv_at hl 1 rfl) ?_
      refine va_alen (v := (Int32.ofNat cp1_len)) hx hb hK hP 1 0 rfl rfl rfl dL_least_13 ?_
      refine lv_icmp_ge (tgt := 97) hx hb dL_least_14 (by decide) (fun h1 => ?_) (fun h1 => ?_)
      · have hf := ipos h1 hf
        obtain rfl := Option.some.inj hf
        cases lpx_r hlp
        exact (hWW _).mp (K ls (lv_sub hl [0, 3, 4, 5, 6] rfl))
      · have hf := ineg h1 hf
        refine lv_iload_n hx hb dL_least_17 rfl (lv_at hl 2 rfl) ?_
        refine lv_iload hx hb dL_least_18 (lv_at hl 7 rfl) ?_
        refine lv_ishr hx hb dL_least_20 ?_
        refine lv_iconst (v := 1) hx hb dL_least_21 (by decide) ?_
        refine lv_iand hx hb dL_least_22 ?_
        refine lv_iconst (v := 1) hx hb dL_least_23 (by decide) ?_
        refine lv_icmp_ne (tgt := 30) hx hb dL_least_24 (by decide) (fun h2 => ?_) (fun h2 => ?_)
        · have hf := ineg h2 hf
          refine lv_iconst (v := 0) hx hb dL_least_30 (by decide) ?_
          refine lv_istore (lv' := [(6, .int 0), (0, .ref a0), (1, .ref ap1), (2, .int n2), (3, .int n3), (4, .int n4), (5, .int n5), (7, .int n7)]) hx hb dL_least_31 hl (by decide) rfl (fun ls hl => ?_)
          refine lv_aload_n hx hb dL_least_33 rfl (lv_at hl 2 rfl) ?_
          refine lv_iload hx hb dL_least_34 (lv_at hl 7 rfl) ?_
          obtain ⟨h3, hf⟩ := ob_d hf
          refine va_iald hx hb hK hP 1 0 rfl rfl h3 dL_least_36 ?_
          refine lv_aload_n hx hb dL_least_37 rfl (lv_at hl 1 rfl) ?_
          refine va_get (D := D) (ci := 8) (v := .int c_positions) (C := RL) (T := TL) (N := 8) hx hb hts (fun w h => mb (iL w h)) hown hK hP 0 rfl rfl 3 (by decide) (hts _ (mb tb_314)) (fun _ h9 => h9) rfl dL_least_38 ?_
          obtain ⟨h4, hf⟩ := ob_z hf
          refine lv_idiv hx hb dL_least_41 h4 ?_
          refine lv_istore (lv' := [(8, .int ((cp1 n7.toNatClampNeg) / c_positions)), (6, .int 0), (0, .ref a0), (1, .ref ap1), (2, .int n2), (3, .int n3), (4, .int n4), (5, .int n5), (7, .int n7)]) hx hb dL_least_42 hl (by decide) rfl (fun ls hl => ?_)
          refine lv_aload_n hx hb dL_least_44 rfl (lv_at hl 3 rfl) ?_
          refine lv_iload hx hb dL_least_45 (lv_at hl 8 rfl) ?_
          obtain ⟨h5, hf⟩ := ob_d hf
          refine va_iald hx hb hK hP 1 0 rfl rfl h5 dL_least_47 ?_
          refine lv_aload_n hx hb dL_least_48 rfl (lv_at hl 2 rfl) ?_
          refine va_get (D := D) (ci := 8) (v := .int c_positions) (C := RL) (T := TL) (N := 8) hx hb hts (fun w h => mb (iL w h)) hown hK hP 0 rfl rfl 3 (by decide) (hts _ (mb tb_314)) (fun _ h9 => h9) rfl dL_least_49 ?_
          obtain ⟨h6, hf⟩ := ob_z hf
          refine lv_irem hx hb dL_least_52 h6 ?_
          refine lv_iconst (v := 1) hx hb dL_least_53 (by decide) ?_
          refine lv_iadd hx hb dL_least_54 ?_
          refine lv_istore (lv' := [(9, .int (((cp1 n7.toNatClampNeg) - (cp1 n7.toNatClampNeg) / c_positions * c_positions) + 1)), (8, .int ((cp1 n7.toNatClampNeg) / c_positions)), (6, .int 0), (0, .ref a0), (1, .ref ap1), (2, .int n2), (3, .int n3), (4, .int n4), (5, .int n5), (7, .int n7)]) hx hb dL_least_55 hl (by decide) rfl (fun ls hl => ?_)
          refine lv_iload hx hb dL_least_57 (lv_at hl 8 rfl) ?_
          refine lv_aload_n hx hb dL_least_59 rfl (lv_at hl 3 rfl) ?_
          refine lv_iload_n hx hb dL_least_60 rfl (lv_at hl 6 rfl) ?_
          refine lv_iload hx hb dL_least_61 (lv_at hl 7 rfl) ?_
          refine lv_iload hx hb dL_least_63 (lv_at hl 1 rfl) ?_
          refine lv_iload hx hb dL_least_65 (lv_at hl 0 rfl) ?_
          obtain ⟨r7, hc8, hf⟩ := ob1 hf
          refine ro_calli (r := r7) (va_runV (As := [.int n3, .int n4, .int ((cp1 n7.toNatClampNeg) / c_positions), .int (((cp1 n7.toNatClampNeg) - (cp1 n7.toNatClampNeg) / c_positions * c_positions) + 1)]) (rest := [.int n5]) ⟨hx, hb, hml, hown, hts⟩ (k_L_between l hl0 D cI cJ cZ cS B0 H a0 a_o a_d c_lanes c_positions c_gap c_products c_lots c_orders n3 n4 ((cp1 n7.toNatClampNeg) / c_positions) (((cp1 n7.toNatClampNeg) - (cp1 n7.toNatClampNeg) / c_positions * c_positions) + 1) r7 hc8) (cwV 4 hts (gV tb_798 tb_800 ts_28 tb_0 tb_801) rfl rfl rfl (by decide +kernel) ⟨Nat.le_of_ble_eq_true rfl, Nat.le_of_ble_eq_true rfl⟩) ⟨rp_blind, va_recv hK hP (ci := 8) (q0 := 0) rfl rfl, rp_pre (hP.sub [0] rfl) hK (hBn _ _ hS) (hEn _ _ hS)⟩ rfl rfl hl.1 rfl (lv_room (Nat.le_of_ble_eq_true rfl)) dL_least_67 ⟨Nat.le_of_ble_eq_true rfl, Nat.le_of_ble_eq_true rfl⟩) ?_
          refine lv_aload_n hx hb dL_least_70 rfl (lv_at hl 3 rfl) ?_
          refine lv_aload_n hx hb dL_least_71 rfl (lv_at hl 4 rfl) ?_
          refine lv_iload_n hx hb dL_least_72 rfl (lv_at hl 5 rfl) ?_
          refine lv_iconst (v := 1) hx hb dL_least_73 (by decide) ?_
          refine lv_iload hx hb dL_least_74 (lv_at hl 9 rfl) ?_
          refine lv_ishl hx hb dL_least_76 ?_
          refine lv_ior hx hb dL_least_77 ?_
          refine lv_iload hx hb dL_least_78 (lv_at hl 1 rfl) ?_
          refine lv_iload hx hb dL_least_80 (lv_at hl 0 rfl) ?_
          obtain ⟨r9, hc10, hf⟩ := ob1 hf
          refine ro_calli (r := r9) (va_runV (As := [.ref ap1, .int (n2 ||| (1 <<< (n7 &&& 31))), .int ((cp1 n7.toNatClampNeg) / c_positions), .int (((cp1 n7.toNatClampNeg) - (cp1 n7.toNatClampNeg) / c_positions * c_positions) + 1)]) (rest := [.int r7, .int n5]) ⟨hx, hb, hml, hown, hts⟩ (k_L_least5 l hl0 D cI cJ cZ cS B0 H a0 a_o a_d ap1 c_lanes c_positions c_gap c_products c_lots c_orders cp1_len cp1 (n2 ||| (1 <<< (n7 &&& 31))) ((cp1 n7.toNatClampNeg) / c_positions) (((cp1 n7.toNatClampNeg) - (cp1 n7.toNatClampNeg) / c_positions * c_positions) + 1) r9 hc10) (cwV 4 hts (gV tb_793 tb_795 ts_27 tb_0 tb_796) rfl rfl rfl (by decide +kernel) ⟨Nat.le_of_ble_eq_true rfl, Nat.le_of_ble_eq_true rfl⟩) ⟨rp_blind, va_recv hK hP (ci := 8) (q0 := 0) rfl rfl, rp_pre (hP.sub [0, 1] rfl) hK (hBn _ _ hS) (hEn _ _ hS)⟩ rfl rfl hl.1 rfl (lv_room (Nat.le_of_ble_eq_true rfl)) dL_least_82 ⟨Nat.le_of_ble_eq_true rfl, Nat.le_of_ble_eq_true rfl⟩) ?_
          refine lv_iadd hx hb dL_least_85 ?_
          refine va_mmin hx hb (hml.trans hl.1.symm) hown (hts _ (mb tb_805)) (hts _ (mb tb_257)) (hts _ (mb tb_8)) (hts _ (mb wm_min)) (Nat.le_of_ble_eq_true rfl) (Nat.le_of_ble_eq_true rfl) (Nat.le_of_ble_eq_true rfl) (Nat.le_of_ble_eq_true rfl) dL_least_86 ?_
          refine lv_istore (lv' := [(5, .int (if (r7 + r9) < n5 then (r7 + r9) else n5)), (9, .int (((cp1 n7.toNatClampNeg) - (cp1 n7.toNatClampNeg) / c_positions * c_positions) + 1)), (8, .int ((cp1 n7.toNatClampNeg) / c_positions)), (6, .int 0), (0, .ref a0), (1, .ref ap1), (2, .int n2), (3, .int n3), (4, .int n4), (7, .int n7)]) hx hb dL_least_89 hl (by decide) rfl (fun ls hl => ?_)
          exact (hWW _).mp (hJ91 _ _ _ hf ls (lv_sub hl [4, 5, 6, 7, 8, 0, 3, 9] rfl))
        · have hf := ipos h2 hf
          refine lv_goto (tgt := 91) hx hb dL_least_27 (by decide) ?_
          exact (hWW _).mp (hJ91 _ _ _ hf ls (lv_sub hl [0, 1, 2, 3, 4, 5, 6, 7] rfl))
  refine (hWW _).mpr ?_
  refine lv_ldc hx hb hown (hts _ (mb tb_797)) dL_least_0 ?_
  refine lv_istore (lv' := [(5, .int 2147483647), (0, .ref a0), (1, .ref ap1), (2, .int v2), (3, .int v3), (4, .int v4)]) hx hb dL_least_2 hl (by decide) rfl (fun ls hl => ?_)
  refine lv_iconst (v := 1) hx hb dL_least_4 (by decide) ?_
  refine lv_istore (lv' := [(6, .int 1), (5, .int 2147483647), (0, .ref a0), (1, .ref ap1), (2, .int v2), (3, .int v3), (4, .int v4)]) hx hb dL_least_5 hl (by decide) rfl (fun ls hl => ?_)
  refine lv_iconst (v := 0) hx hb dL_least_7 (by decide) ?_
  refine lv_istore (lv' := [(7, .int 0), (6, .int 1), (5, .int 2147483647), (0, .ref a0), (1, .ref ap1), (2, .int v2), (3, .int v3), (4, .int v4)]) hx hb dL_least_8 hl (by decide) rfl (fun ls hl => ?_)
  obtain ⟨m12, m13, hc11, hf⟩ := ob2 hf
  refine (hWW _).mp (hL10 fu _ _ _ _ _ _ _ _ hc11 (fun ls hl => ?_) ls (lv_sub hl [3, 4, 5, 6, 7, 2, 1, 0] rfl))
  · refine (hWW _).mpr ?_
    refine lv_iload hx hb dL_least_97 (lv_at hl 4 rfl) ?_
    refine lv_if_eq (tgt := 114) hx hb dL_least_99 (by decide) (fun h14 => ?_) (fun h14 => ?_)
    · have hf := ipos h14 hf
      refine lv_iload hx hb dL_least_114 (lv_at hl 3 rfl) ?_
      cases hf
      exact W.iret hx hb hr (fun t ht hW => ⟨⟨_, (), rfl, rfl, (ht.trans hHe)⟩, hS.F ht⟩) hS.2.2 dL_least_116
    · have hf := ineg h14 hf
      refine lv_aload_n hx hb dL_least_102 rfl (lv_at hl 0 rfl) ?_
      refine lv_iload_n hx hb dL_least_103 rfl (lv_at hl 1 rfl) ?_
      refine lv_iload hx hb dL_least_104 (lv_at hl 2 rfl) ?_
      refine lv_iconst (v := 0) hx hb dL_least_106 (by decide) ?_
      refine lv_iconst (v := 0) hx hb dL_least_107 (by decide) ?_
      obtain ⟨r15, hc16, hf⟩ := ob1 hf
      refine ro_calli (r := r15) (va_runV (As := [.int v3, .int v4, .int 0, .int 0]) (rest := []) ⟨hx, hb, hml, hown, hts⟩ (k_L_between l hl0 D cI cJ cZ cS B0 H a0 a_o a_d c_lanes c_positions c_gap c_products c_lots c_orders v3 v4 0 0 r15 hc16) (cwV 4 hts (gV tb_798 tb_800 ts_28 tb_0 tb_801) rfl rfl rfl (by decide +kernel) ⟨Nat.le_of_ble_eq_true rfl, Nat.le_of_ble_eq_true rfl⟩) ⟨rp_blind, va_recv hK hP (ci := 8) (q0 := 0) rfl rfl, rp_pre (hP.sub [0] rfl) hK (hBn _ _ hS) (hEn _ _ hS)⟩ rfl rfl hl.1 rfl (lv_room (Nat.le_of_ble_eq_true rfl)) dL_least_108 ⟨Nat.le_of_ble_eq_true rfl, Nat.le_of_ble_eq_true rfl⟩) ?_
      refine lv_goto (tgt := 116) hx hb dL_least_111 (by decide) ?_
      cases hf
      exact W.iret hx hb hr (fun t ht hW => ⟨⟨_, (), rfl, rfl, (ht.trans hHe)⟩, hS.F ht⟩) hS.2.2 dL_least_116
def f_L_least7_L10_J91 (n2 : Int32) (n3 : Int32) (n4 : Int32) (n5 : Int32) (n6 : Int32) (n7 : Int32) (c_positions : Int32) (c_gap : Int32) (cp1_len : Nat) (cp1 : Nat → Int32) : Option ((Int32 × Int32 × Int32) ⊕ (Int32 × Int32)) :=
  some (.inl (n5, n6, n7 + 1))
def f_L_least7_L10 (n2 : Int32) (n3 : Int32) (n4 : Int32) (c_positions : Int32) (c_gap : Int32) (cp1_len : Nat) (cp1 : Nat → Int32) (n5 : Int32) (n6 : Int32) (n7 : Int32) : Option ((Int32 × Int32 × Int32) ⊕ (Int32 × Int32)) :=
  (if (Int32.ofNat cp1_len) ≤ n7 then some (.inr (n5, n6))
  else (if ((n2 >>> (n7 &&& 31)) &&& 1) = 1 then f_L_least7_L10_J91 n2 n3 n4 n5 n6 n7 c_positions c_gap cp1_len cp1
  else gd n7 cp1_len (gz c_positions (gd n7 cp1_len (gz c_positions (bnd1 (f_L_between n3 n4 ((cp1 n7.toNatClampNeg) / c_positions) (((cp1 n7.toNatClampNeg) - (cp1 n7.toNatClampNeg) / c_positions * c_positions) + 1) c_positions c_gap) (fun r7 =>
  (bnd1 (f_L_least6 (n2 ||| (1 <<< (n7 &&& 31))) ((cp1 n7.toNatClampNeg) / c_positions) (((cp1 n7.toNatClampNeg) - (cp1 n7.toNatClampNeg) / c_positions * c_positions) + 1) c_positions c_gap cp1_len cp1) (fun r9 =>
  (f_L_least7_L10_J91 n2 n3 n4 (if (r7 + r9) < n5 then (r7 + r9) else n5) 0 n7 c_positions c_gap cp1_len cp1))))))))))
def f_L_least7 (v2 : Int32) (v3 : Int32) (v4 : Int32) (c_positions : Int32) (c_gap : Int32) (cp1_len : Nat) (cp1 : Nat → Int32) : Option (Int32) :=
  (bnd2 (loop (fun z => f_L_least7_L10 v2 v3 v4 c_positions c_gap cp1_len cp1 z.1 z.2.1 z.2.2) fu (2147483647, 1, 0)) fun m12 m13 =>
  (if m13 = 0 then some m12
  else bnd1 (f_L_between v3 v4 0 0 c_positions c_gap) (fun r15 =>
  (some r15))))
set_option maxHeartbeats 4000000 in
set_option maxRecDepth 100000 in
theorem k_L_least7 (l : Launch) (hl0 : l.stackTraces = false) (D : va_G) (cI cJ cZ cS : ClassId) (B0 : Nat) (H0 : Heap) (a0 a_o a_d ap1 : Nat) (c_lanes : Int32) (c_positions : Int32) (c_gap : Int32) (c_products : Int32) (c_lots : Int32) (c_orders : Int32) (cp1_len : Nat) (cp1 : Nat → Int32) (v2 : Int32) (v3 : Int32) (v4 : Int32) (r9 : Int32)  (hf : f_L_least7 v2 v3 v4 c_positions c_gap cp1_len cp1 = some r9) : Met l yL_least (wz yL_least cL_least 10 (some .int)) ({ frames := 8, cells := 0, slots := 0, locals := 263 }) (va_Pc [.ref a0, .ref ap1, .int v2, .int v3, .int v4] (rp D cI cJ cZ cS B0 [oL a0 a_o a_d c_lanes c_positions c_gap c_products c_lots c_orders, rI cI ap1 cp1_len cp1] H0)) (va_Qi (fun (r2 : Int32) (_ : Unit) => r2 = r9) (fun _ t => t.heap = H0) (fun q => H0.size ≤ q)) 0 0 (fun q => H0.size ≤ q) := by
  refine Met.ofW (cc := cL_least) (maxL := 10) (ret := (some .int)) (by decide) rfl ?_
  intro p e s m args below meth c s₁ B hml hv
  obtain ⟨rfl, hH, hP, hK, hB0, hE⟩ := hv
  subst hH
  have hx := B.exec
  have hb := B.bytes
  have hr := B.returns
  have hts := atoms_spec (ws := (wz yL_least cL_least 10 (some .int))) B.pre
  have hown : s.vm.findClass RL = some m.cls := findClass_of_methodNamed B.named
  have hlocks := B.notSynchronized
  have hAB : ∀ q : Nat, s.heap.size ≤ q → B0 ≤ q := fun q h => Nat.le_trans hB0 h
  have hA : ∀ q : Nat, s.heap.size ≤ q → s.heap.size ≤ q := fun _ h => h
  have hS : va_S (fun q => s.heap.size ≤ q) s.heap s.heap [] := va_S.rf
  have hBn := fun (H : Heap) (locs : List Loc) (h : va_S (fun q => s.heap.size ≤ q) s.heap H locs) => Nat.le_trans hB0 h.1
  have hEn := fun (H : Heap) (locs : List Loc) (h : va_S (fun q => s.heap.size ≤ q) s.heap H locs) => gE_now hE h hAB
  have hl := lv_entry ([.ref a0, .ref ap1, .int v2, .int v3, .int v4]) (n := 10) (Nat.le_of_ble_eq_true rfl)
  rw [lg_entry_eq]
  generalize (lg_sl ([.ref a0, .ref ap1, .int v2, .int v3, .int v4]) ++ List.replicate (10 - (lg_sl ([.ref a0, .ref ap1, .int v2, .int v3, .int v4])).length) Slot.unset).toArray = ls at hl ⊢
  have hl : lv_has ls 10 [(0, .ref a0), (1, .ref ap1), (2, .int v2), (3, .int v3), (4, .int v4)] := hl
  obtain ⟨H, hHe⟩ : ∃ H : Heap, H = s.heap := ⟨_, rfl⟩
  have hP : va_P D vwCl [oL a0 a_o a_d c_lanes c_positions c_gap c_products c_lots c_orders, rI cI ap1 cp1_len cp1] H := by rw [hHe]; exact hP
  have hS : va_S (fun q => s.heap.size ≤ q) s.heap H [] := by rw [hHe]; exact hS
  refine W_heq hHe ?_
  unfold f_L_least7 at hf
  refine gen_go (fun WW hWW => ?_)
  have hL10 : ∀ (n : Nat) (n2 : Int32) (n3 : Int32) (n4 : Int32) (n5 : Int32) (n6 : Int32) (n7 : Int32) (e5 : Int32) (e6 : Int32), loop (fun z => f_L_least7_L10 n2 n3 n4 c_positions c_gap cp1_len cp1 z.1 z.2.1 z.2.2) n (n5, n6, n7) = some (e5, e6) → (∀ (ls : Array Slot), lv_has ls 10 [(0, .ref a0), (3, .int n3), (4, .int n4), (5, .int e5), (6, .int e6)] → WW (F0 m 97 ls [])) → ∀ (ls : Array Slot), lv_has ls 10 [(0, .ref a0), (1, .ref ap1), (2, .int n2), (3, .int n3), (4, .int n4), (5, .int n5), (6, .int n6), (7, .int n7)] → WW (F0 m 10 ls []) := by
    intro n
    induction n with
    | zero =>
      intro n2 n3 n4 n5 n6 n7 e5 e6 hlp
      exact absurd hlp (by simp [loop])
    | succ n ih =>
      intro n2 n3 n4 n5 n6 n7 e5 e6 hlp K ls hl
      obtain ⟨x9, hf, hlp⟩ := loop_s hlp
      have hf : f_L_least7_L10 n2 n3 n4 c_positions c_gap cp1_len cp1 n5 n6 n7 = some x9 := hf
      unfold f_L_least7_L10 at hf
      have hJ91 : ∀ (n5 : Int32) (n6 : Int32) (n7 : Int32), f_L_least7_L10_J91 n2 n3 n4 n5 n6 n7 c_positions c_gap cp1_len cp1 = some x9 → ∀ (ls : Array Slot), lv_has ls 10 [(0, .ref a0), (1, .ref ap1), (2, .int n2), (3, .int n3), (4, .int n4), (5, .int n5), (6, .int n6), (7, .int n7)] → WW (F0 m 91 ls []) := by
        intro n5 n6 n7 hf ls hl
        unfold f_L_least7_L10_J91 at hf
        refine (hWW _).mpr ?_
        refine lv_iinc (v := (n7 + 1)) (lv' := [(7, .int (n7 + 1)), (0, .ref a0), (1, .ref ap1), (2, .int n2), (3, .int n3), (4, .int n4), (5, .int n5), (6, .int n6)]) hx hb dL_least_91 hl (k := 7) rfl rfl (by decide) rfl (fun ls hl => ?_)
        refine lv_goto (tgt := 10) hx hb dL_least_94 (by decide) ?_
        obtain rfl := Option.some.inj hf
        exact (hWW _).mp (ih _ _ _ _ _ _ _ _ hlp K ls (lv_sub hl [1, 2, 3, 4, 5, 6, 7, 0] rfl))
      refine (hWW _).mpr ?_
      refine lv_iload hx hb dL_least_10 (lv_at hl 7 rfl) ?_
      refine lv_aload_n hx hb dL_least_12 rfl (lv_at hl 1 rfl) ?_
      refine va_alen (v := (Int32.ofNat cp1_len)) hx hb hK hP 1 0 rfl rfl rfl dL_least_13 ?_
      refine lv_icmp_ge (tgt := 97) hx hb dL_least_14 (by decide) (fun h1 => ?_) (fun h1 => ?_)
      · have hf := ipos h1 hf
        obtain rfl := Option.some.inj hf
        cases lpx_r hlp
        exact (hWW _).mp (K ls (lv_sub hl [0, 3, 4, 5, 6] rfl))
      · have hf := ineg h1 hf
        refine lv_iload_n hx hb dL_least_17 rfl (lv_at hl 2 rfl) ?_
        refine lv_iload hx hb dL_least_18 (lv_at hl 7 rfl) ?_
        refine lv_ishr hx hb dL_least_20 ?_
        refine lv_iconst (v := 1) hx hb dL_least_21 (by decide) ?_
        refine lv_iand hx hb dL_least_22 ?_
        refine lv_iconst (v := 1) hx hb dL_least_23 (by decide) ?_
        refine lv_icmp_ne (tgt := 30) hx hb dL_least_24 (by decide) (fun h2 => ?_) (fun h2 => ?_)
        · have hf := ineg h2 hf
          refine lv_iconst (v := 0) hx hb dL_least_30 (by decide) ?_
          refine lv_istore (lv' := [(6, .int 0), (0, .ref a0), (1, .ref ap1), (2, .int n2), (3, .int n3), (4, .int n4), (5, .int n5), (7, .int n7)]) hx hb dL_least_31 hl (by decide) rfl (fun ls hl => ?_)
          refine lv_aload_n hx hb dL_least_33 rfl (lv_at hl 2 rfl) ?_
          refine lv_iload hx hb dL_least_34 (lv_at hl 7 rfl) ?_
          obtain ⟨h3, hf⟩ := ob_d hf
          refine va_iald hx hb hK hP 1 0 rfl rfl h3 dL_least_36 ?_
          refine lv_aload_n hx hb dL_least_37 rfl (lv_at hl 1 rfl) ?_
          refine va_get (D := D) (ci := 8) (v := .int c_positions) (C := RL) (T := TL) (N := 8) hx hb hts (fun w h => mb (iL w h)) hown hK hP 0 rfl rfl 3 (by decide) (hts _ (mb tb_314)) (fun _ h9 => h9) rfl dL_least_38 ?_
          obtain ⟨h4, hf⟩ := ob_z hf
          refine lv_idiv hx hb dL_least_41 h4 ?_
          refine lv_istore (lv' := [(8, .int ((cp1 n7.toNatClampNeg) / c_positions)), (6, .int 0), (0, .ref a0), (1, .ref ap1), (2, .int n2), (3, .int n3), (4, .int n4), (5, .int n5), (7, .int n7)]) hx hb dL_least_42 hl (by decide) rfl (fun ls hl => ?_)
          refine lv_aload_n hx hb dL_least_44 rfl (lv_at hl 3 rfl) ?_
          refine lv_iload hx hb dL_least_45 (lv_at hl 8 rfl) ?_
          obtain ⟨h5, hf⟩ := ob_d hf
          refine va_iald hx hb hK hP 1 0 rfl rfl h5 dL_least_47 ?_
          refine lv_aload_n hx hb dL_least_48 rfl (lv_at hl 2 rfl) ?_
          refine va_get (D := D) (ci := 8) (v := .int c_positions) (C := RL) (T := TL) (N := 8) hx hb hts (fun w h => mb (iL w h)) hown hK hP 0 rfl rfl 3 (by decide) (hts _ (mb tb_314)) (fun _ h9 => h9) rfl dL_least_49 ?_
          obtain ⟨h6, hf⟩ := ob_z hf
          refine lv_irem hx hb dL_least_52 h6 ?_
          refine lv_iconst (v := 1) hx hb dL_least_53 (by decide) ?_
          refine lv_iadd hx hb dL_least_54 ?_
          refine lv_istore (lv' := [(9, .int (((cp1 n7.toNatClampNeg) - (cp1 n7.toNatClampNeg) / c_positions * c_positions) + 1)), (8, .int ((cp1 n7.toNatClampNeg) / c_positions)), (6, .int 0), (0, .ref a0), (1, .ref ap1), (2, .int n2), (3, .int n3), (4, .int n4), (5, .int n5), (7, .int n7)]) hx hb dL_least_55 hl (by decide) rfl (fun ls hl => ?_)
          refine lv_iload hx hb dL_least_57 (lv_at hl 8 rfl) ?_
          refine lv_aload_n hx hb dL_least_59 rfl (lv_at hl 3 rfl) ?_
          refine lv_iload_n hx hb dL_least_60 rfl (lv_at hl 6 rfl) ?_
          refine lv_iload hx hb dL_least_61 (lv_at hl 7 rfl) ?_
          refine lv_iload hx hb dL_least_63 (lv_at hl 1 rfl) ?_
          refine lv_iload hx hb dL_least_65 (lv_at hl 0 rfl) ?_
          obtain ⟨r7, hc8, hf⟩ := ob1 hf
          refine ro_calli (r := r7) (va_runV (As := [.int n3, .int n4, .int ((cp1 n7.toNatClampNeg) / c_positions), .int (((cp1 n7.toNatClampNeg) - (cp1 n7.toNatClampNeg) / c_positions * c_positions) + 1)]) (rest := [.int n5]) ⟨hx, hb, hml, hown, hts⟩ (k_L_between l hl0 D cI cJ cZ cS B0 H a0 a_o a_d c_lanes c_positions c_gap c_products c_lots c_orders n3 n4 ((cp1 n7.toNatClampNeg) / c_positions) (((cp1 n7.toNatClampNeg) - (cp1 n7.toNatClampNeg) / c_positions * c_positions) + 1) r7 hc8) (cwV 4 hts (gV tb_798 tb_800 ts_28 tb_0 tb_801) rfl rfl rfl (by decide +kernel) ⟨Nat.le_of_ble_eq_true rfl, Nat.le_of_ble_eq_true rfl⟩) ⟨rp_blind, va_recv hK hP (ci := 8) (q0 := 0) rfl rfl, rp_pre (hP.sub [0] rfl) hK (hBn _ _ hS) (hEn _ _ hS)⟩ rfl rfl hl.1 rfl (lv_room (Nat.le_of_ble_eq_true rfl)) dL_least_67 ⟨Nat.le_of_ble_eq_true rfl, Nat.le_of_ble_eq_true rfl⟩) ?_
          refine lv_aload_n hx hb dL_least_70 rfl (lv_at hl 3 rfl) ?_
          refine lv_aload_n hx hb dL_least_71 rfl (lv_at hl 4 rfl) ?_
          refine lv_iload_n hx hb dL_least_72 rfl (lv_at hl 5 rfl) ?_
          refine lv_iconst (v := 1) hx hb dL_least_73 (by decide) ?_
          refine lv_iload hx hb dL_least_74 (lv_at hl 9 rfl) ?_
          refine lv_ishl hx hb dL_least_76 ?_
          refine lv_ior hx hb dL_least_77 ?_
          refine lv_iload hx hb dL_least_78 (lv_at hl 1 rfl) ?_
          refine lv_iload hx hb dL_least_80 (lv_at hl 0 rfl) ?_
          obtain ⟨r9, hc10, hf⟩ := ob1 hf
          refine ro_calli (r := r9) (va_runV (As := [.ref ap1, .int (n2 ||| (1 <<< (n7 &&& 31))), .int ((cp1 n7.toNatClampNeg) / c_positions), .int (((cp1 n7.toNatClampNeg) - (cp1 n7.toNatClampNeg) / c_positions * c_positions) + 1)]) (rest := [.int r7, .int n5]) ⟨hx, hb, hml, hown, hts⟩ (k_L_least6 l hl0 D cI cJ cZ cS B0 H a0 a_o a_d ap1 c_lanes c_positions c_gap c_products c_lots c_orders cp1_len cp1 (n2 ||| (1 <<< (n7 &&& 31))) ((cp1 n7.toNatClampNeg) / c_positions) (((cp1 n7.toNatClampNeg) - (cp1 n7.toNatClampNeg) / c_positions * c_positions) + 1) r9 hc10) (cwV 4 hts (gV tb_793 tb_795 ts_27 tb_0 tb_796) rfl rfl rfl (by decide +kernel) ⟨Nat.le_of_ble_eq_true rfl, Nat.le_of_ble_eq_true rfl⟩) ⟨rp_blind, va_recv hK hP (ci := 8) (q0 := 0) rfl rfl, rp_pre (hP.sub [0, 1] rfl) hK (hBn _ _ hS) (hEn _ _ hS)⟩ rfl rfl hl.1 rfl (lv_room (Nat.le_of_ble_eq_true rfl)) dL_least_82 ⟨Nat.le_of_ble_eq_true rfl, Nat.le_of_ble_eq_true rfl⟩) ?_
          refine lv_iadd hx hb dL_least_85 ?_
          refine va_mmin hx hb (hml.trans hl.1.symm) hown (hts _ (mb tb_805)) (hts _ (mb tb_257)) (hts _ (mb tb_8)) (hts _ (mb wm_min)) (Nat.le_of_ble_eq_true rfl) (Nat.le_of_ble_eq_true rfl) (Nat.le_of_ble_eq_true rfl) (Nat.le_of_ble_eq_true rfl) dL_least_86 ?_
          refine lv_istore (lv' := [(5, .int (if (r7 + r9) < n5 then (r7 + r9) else n5)), (9, .int (((cp1 n7.toNatClampNeg) - (cp1 n7.toNatClampNeg) / c_positions * c_positions) + 1)), (8, .int ((cp1 n7.toNatClampNeg) / c_positions)), (6, .int 0), (0, .ref a0), (1, .ref ap1), (2, .int n2), (3, .int n3), (4, .int n4), (7, .int n7)]) hx hb dL_least_89 hl (by decide) rfl (fun ls hl => ?_)
          exact (hWW _).mp (hJ91 _ _ _ hf ls (lv_sub hl [4, 5, 6, 7, 8, 0, 3, 9] rfl))
        · have hf := ipos h2 hf
          refine lv_goto (tgt := 91) hx hb dL_least_27 (by decide) ?_
          exact (hWW _).mp (hJ91 _ _ _ hf ls (lv_sub hl [0, 1, 2, 3, 4, 5, 6, 7] rfl))
  refine (hWW _).mpr ?_
  refine lv_ldc hx hb hown (hts _ (mb tb_797)) dL_least_0 ?_
  refine lv_istore (lv' := [(5, .int 2147483647), (0, .ref a0), (1, .ref ap1), (2, .int v2), (3, .int v3), (4, .int v4)]) hx hb dL_least_2 hl (by decide) rfl (fun ls hl => ?_)
  refine lv_iconst (v := 1) hx hb dL_least_4 (by decide) ?_
  refine lv_istore (lv' := [(6, .int 1), (5, .int 2147483647), (0, .ref a0), (1, .ref ap1), (2, .int v2), (3, .int v3), (4, .int v4)]) hx hb dL_least_5 hl (by decide) rfl (fun ls hl => ?_)
  refine lv_iconst (v := 0) hx hb dL_least_7 (by decide) ?_
  refine lv_istore (lv' := [(7, .int 0), (6, .int 1), (5, .int 2147483647), (0, .ref a0), (1, .ref ap1), (2, .int v2), (3, .int v3), (4, .int v4)]) hx hb dL_least_8 hl (by decide) rfl (fun ls hl => ?_)
  obtain ⟨m12, m13, hc11, hf⟩ := ob2 hf
  refine (hWW _).mp (hL10 fu _ _ _ _ _ _ _ _ hc11 (fun ls hl => ?_) ls (lv_sub hl [3, 4, 5, 6, 7, 2, 1, 0] rfl))
  · refine (hWW _).mpr ?_
    refine lv_iload hx hb dL_least_97 (lv_at hl 4 rfl) ?_
    refine lv_if_eq (tgt := 114) hx hb dL_least_99 (by decide) (fun h14 => ?_) (fun h14 => ?_)
    · have hf := ipos h14 hf
      refine lv_iload hx hb dL_least_114 (lv_at hl 3 rfl) ?_
      cases hf
      exact W.iret hx hb hr (fun t ht hW => ⟨⟨_, (), rfl, rfl, (ht.trans hHe)⟩, hS.F ht⟩) hS.2.2 dL_least_116
    · have hf := ineg h14 hf
      refine lv_aload_n hx hb dL_least_102 rfl (lv_at hl 0 rfl) ?_
      refine lv_iload_n hx hb dL_least_103 rfl (lv_at hl 1 rfl) ?_
      refine lv_iload hx hb dL_least_104 (lv_at hl 2 rfl) ?_
      refine lv_iconst (v := 0) hx hb dL_least_106 (by decide) ?_
      refine lv_iconst (v := 0) hx hb dL_least_107 (by decide) ?_
      obtain ⟨r15, hc16, hf⟩ := ob1 hf
      refine ro_calli (r := r15) (va_runV (As := [.int v3, .int v4, .int 0, .int 0]) (rest := []) ⟨hx, hb, hml, hown, hts⟩ (k_L_between l hl0 D cI cJ cZ cS B0 H a0 a_o a_d c_lanes c_positions c_gap c_products c_lots c_orders v3 v4 0 0 r15 hc16) (cwV 4 hts (gV tb_798 tb_800 ts_28 tb_0 tb_801) rfl rfl rfl (by decide +kernel) ⟨Nat.le_of_ble_eq_true rfl, Nat.le_of_ble_eq_true rfl⟩) ⟨rp_blind, va_recv hK hP (ci := 8) (q0 := 0) rfl rfl, rp_pre (hP.sub [0] rfl) hK (hBn _ _ hS) (hEn _ _ hS)⟩ rfl rfl hl.1 rfl (lv_room (Nat.le_of_ble_eq_true rfl)) dL_least_108 ⟨Nat.le_of_ble_eq_true rfl, Nat.le_of_ble_eq_true rfl⟩) ?_
      refine lv_goto (tgt := 116) hx hb dL_least_111 (by decide) ?_
      cases hf
      exact W.iret hx hb hr (fun t ht hW => ⟨⟨_, (), rfl, rfl, (ht.trans hHe)⟩, hS.F ht⟩) hS.2.2 dL_least_116
def f_L_free_L4_J32 (n1 : Int32) (n2 : Int32) (c_lanes : Int32) (c_positions : Int32) (c_o_now_shelves_positions : Int32) (c_o_now_shelves_gap : Int32) (c_o_now_shelves_places : Int32) (c_o_now_shelves_lot : Nat → Int32) (c_o_now_shelves_pieces : Nat → Int32) (c_o_now_shelves_mark : Nat → Int32) : Option ((Int32 × Int32) ⊕ Int32) :=
  some (.inl (n1, n2 + 1))
def f_L_free_L4 (c_lanes : Int32) (c_positions : Int32) (c_o_now_shelves_positions : Int32) (c_o_now_shelves_gap : Int32) (c_o_now_shelves_places : Int32) (c_o_now_shelves_lot : Nat → Int32) (c_o_now_shelves_pieces : Nat → Int32) (c_o_now_shelves_mark : Nat → Int32) (n1 : Int32) (n2 : Int32) : Option ((Int32 × Int32) ⊕ Int32) :=
  (if (c_lanes * c_positions) ≤ n2 then some (.inr n1)
  else bnd1 (f_X7_placeAt n2 1 c_o_now_shelves_positions c_o_now_shelves_gap c_o_now_shelves_places c_o_now_shelves_lot c_o_now_shelves_pieces c_o_now_shelves_mark) (fun r2 => mx r2 (fun _ => none) (fun r2v =>
  ((if r2v = 0 then f_L_free_L4_J32 (n1 + 1) n2 c_lanes c_positions c_o_now_shelves_positions c_o_now_shelves_gap c_o_now_shelves_places c_o_now_shelves_lot c_o_now_shelves_pieces c_o_now_shelves_mark
  else f_L_free_L4_J32 n1 n2 c_lanes c_positions c_o_now_shelves_positions c_o_now_shelves_gap c_o_now_shelves_places c_o_now_shelves_lot c_o_now_shelves_pieces c_o_now_shelves_mark)))))
def f_L_free (c_lanes : Int32) (c_positions : Int32) (c_o_now_shelves_positions : Int32) (c_o_now_shelves_gap : Int32) (c_o_now_shelves_places : Int32) (c_o_now_shelves_lot : Nat → Int32) (c_o_now_shelves_pieces : Nat → Int32) (c_o_now_shelves_mark : Nat → Int32) : Option (Int32) :=
  (bnd1 (loop (fun z => f_L_free_L4 c_lanes c_positions c_o_now_shelves_positions c_o_now_shelves_gap c_o_now_shelves_places c_o_now_shelves_lot c_o_now_shelves_pieces c_o_now_shelves_mark z.1 z.2) fu (0, 0)) fun m6 =>
  some m6)
set_option maxHeartbeats 4000000 in
set_option maxRecDepth 100000 in
theorem k_L_free (l : Launch) (hl0 : l.stackTraces = false) (D : va_G) (cI cJ cZ cS : ClassId) (B0 : Nat) (sz : Nat) (a0 a_o a_d a_o_now a_o_past a_o_plan a_o_picker a_o_rest a_o_packed a_o_now_items a_o_now_books a_o_now_terms a_o_now_shelves a_o_now_lots a_o_now_orders a_o_now_shelves_lot a_o_now_shelves_pieces a_o_now_shelves_mark a_o_now_shelves_byDistance : Nat) (c_lanes : Int32) (c_positions : Int32) (c_gap : Int32) (c_products : Int32) (c_lots : Int32) (c_orders : Int32) (c_o_acts : Int32) (c_o_nextSlot : Int32) (c_o_now_today : Int32) (c_o_now_products : Int32) (c_o_now_itemCount : Int32) (c_o_now_shelves_lanes : Int32) (c_o_now_shelves_positions : Int32) (c_o_now_shelves_room : Int32) (c_o_now_shelves_gap : Int32) (c_o_now_shelves_places : Int32) (c_o_now_shelves_picked : Int64) (c_o_now_shelves_lot : Nat → Int32) (c_o_now_shelves_pieces : Nat → Int32) (c_o_now_shelves_mark : Nat → Int32) (r9 : Int32)  (hf : f_L_free c_lanes c_positions c_o_now_shelves_positions c_o_now_shelves_gap c_o_now_shelves_places c_o_now_shelves_lot c_o_now_shelves_pieces c_o_now_shelves_mark = some r9) : Met l yL_free (wz yL_free cL_free 3 (some .int)) ({ frames := 8, cells := 1, slots := 6, locals := 134 }) (va_Pc [.ref a0] (wp D cI cJ cZ cS B0 [oL a0 a_o a_d c_lanes c_positions c_gap c_products c_lots c_orders, oX7 a_o a_o_now a_o_past c_o_acts c_o_nextSlot a_o_plan a_o_picker a_o_rest a_o_packed, oX6 a_o_now c_o_now_today c_o_now_products c_o_now_itemCount a_o_now_items a_o_now_books a_o_now_terms a_o_now_shelves a_o_now_lots a_o_now_orders, oX5 a_o_now_shelves c_o_now_shelves_lanes c_o_now_shelves_positions c_o_now_shelves_room c_o_now_shelves_gap c_o_now_shelves_places c_o_now_shelves_picked a_o_now_shelves_lot a_o_now_shelves_pieces a_o_now_shelves_mark a_o_now_shelves_byDistance, rI cI a_o_now_shelves_lot 48 c_o_now_shelves_lot, rI cI a_o_now_shelves_pieces 48 c_o_now_shelves_pieces, rI cI a_o_now_shelves_mark 48 c_o_now_shelves_mark] sz)) (va_Qi (fun (r2 : Int32) (_ : Unit) => r2 = r9) (fun _ t => va_P D vwCl [oL a0 a_o a_d c_lanes c_positions c_gap c_products c_lots c_orders, oX7 a_o a_o_now a_o_past c_o_acts c_o_nextSlot a_o_plan a_o_picker a_o_rest a_o_packed, oX6 a_o_now c_o_now_today c_o_now_products c_o_now_itemCount a_o_now_items a_o_now_books a_o_now_terms a_o_now_shelves a_o_now_lots a_o_now_orders, oX5 a_o_now_shelves c_o_now_shelves_lanes c_o_now_shelves_positions c_o_now_shelves_room c_o_now_shelves_gap c_o_now_shelves_places c_o_now_shelves_picked a_o_now_shelves_lot a_o_now_shelves_pieces a_o_now_shelves_mark a_o_now_shelves_byDistance, rI cI a_o_now_shelves_lot 48 c_o_now_shelves_lot, rI cI a_o_now_shelves_pieces 48 c_o_now_shelves_pieces, rI cI a_o_now_shelves_mark 48 c_o_now_shelves_mark] t.heap) (va_A [oL a0 a_o a_d c_lanes c_positions c_gap c_products c_lots c_orders, oX7 a_o a_o_now a_o_past c_o_acts c_o_nextSlot a_o_plan a_o_picker a_o_rest a_o_packed, oX6 a_o_now c_o_now_today c_o_now_products c_o_now_itemCount a_o_now_items a_o_now_books a_o_now_terms a_o_now_shelves a_o_now_lots a_o_now_orders, oX5 a_o_now_shelves c_o_now_shelves_lanes c_o_now_shelves_positions c_o_now_shelves_room c_o_now_shelves_gap c_o_now_shelves_places c_o_now_shelves_picked a_o_now_shelves_lot a_o_now_shelves_pieces a_o_now_shelves_mark a_o_now_shelves_byDistance, rI cI a_o_now_shelves_lot 48 c_o_now_shelves_lot, rI cI a_o_now_shelves_pieces 48 c_o_now_shelves_pieces, rI cI a_o_now_shelves_mark 48 c_o_now_shelves_mark] sz)) 1 6 (va_A [oL a0 a_o a_d c_lanes c_positions c_gap c_products c_lots c_orders, oX7 a_o a_o_now a_o_past c_o_acts c_o_nextSlot a_o_plan a_o_picker a_o_rest a_o_packed, oX6 a_o_now c_o_now_today c_o_now_products c_o_now_itemCount a_o_now_items a_o_now_books a_o_now_terms a_o_now_shelves a_o_now_lots a_o_now_orders, oX5 a_o_now_shelves c_o_now_shelves_lanes c_o_now_shelves_positions c_o_now_shelves_room c_o_now_shelves_gap c_o_now_shelves_places c_o_now_shelves_picked a_o_now_shelves_lot a_o_now_shelves_pieces a_o_now_shelves_mark a_o_now_shelves_byDistance, rI cI a_o_now_shelves_lot 48 c_o_now_shelves_lot, rI cI a_o_now_shelves_pieces 48 c_o_now_shelves_pieces, rI cI a_o_now_shelves_mark 48 c_o_now_shelves_mark] sz) := by
  refine Met.ofW (cc := cL_free) (maxL := 3) (ret := (some .int)) (by decide) rfl ?_
  intro p e s m args below meth c s₁ B hml hv
  obtain ⟨rfl, hsz, hP, hK, hD0, hB0, hE⟩ := hv
  subst hsz
  have hx := B.exec
  have hb := B.bytes
  have hr := B.returns
  have hts := atoms_spec (ws := (wz yL_free cL_free 3 (some .int))) B.pre
  have hown : s.vm.findClass RL = some m.cls := findClass_of_methodNamed B.named
  have hlocks := B.notSynchronized
  have hD := hD0.self (sz := s.heap.size)
  have hAB : ∀ q : Nat, va_A [oL a0 a_o a_d c_lanes c_positions c_gap c_products c_lots c_orders, oX7 a_o a_o_now a_o_past c_o_acts c_o_nextSlot a_o_plan a_o_picker a_o_rest a_o_packed, oX6 a_o_now c_o_now_today c_o_now_products c_o_now_itemCount a_o_now_items a_o_now_books a_o_now_terms a_o_now_shelves a_o_now_lots a_o_now_orders, oX5 a_o_now_shelves c_o_now_shelves_lanes c_o_now_shelves_positions c_o_now_shelves_room c_o_now_shelves_gap c_o_now_shelves_places c_o_now_shelves_picked a_o_now_shelves_lot a_o_now_shelves_pieces a_o_now_shelves_mark a_o_now_shelves_byDistance, rI cI a_o_now_shelves_lot 48 c_o_now_shelves_lot, rI cI a_o_now_shelves_pieces 48 c_o_now_shelves_pieces, rI cI a_o_now_shelves_mark 48 c_o_now_shelves_mark] s.heap.size q → B0 ≤ q := va_A_B hD0 hB0
  generalize hAe : va_A [oL a0 a_o a_d c_lanes c_positions c_gap c_products c_lots c_orders, oX7 a_o a_o_now a_o_past c_o_acts c_o_nextSlot a_o_plan a_o_picker a_o_rest a_o_packed, oX6 a_o_now c_o_now_today c_o_now_products c_o_now_itemCount a_o_now_items a_o_now_books a_o_now_terms a_o_now_shelves a_o_now_lots a_o_now_orders, oX5 a_o_now_shelves c_o_now_shelves_lanes c_o_now_shelves_positions c_o_now_shelves_room c_o_now_shelves_gap c_o_now_shelves_places c_o_now_shelves_picked a_o_now_shelves_lot a_o_now_shelves_pieces a_o_now_shelves_mark a_o_now_shelves_byDistance, rI cI a_o_now_shelves_lot 48 c_o_now_shelves_lot, rI cI a_o_now_shelves_pieces 48 c_o_now_shelves_pieces, rI cI a_o_now_shelves_mark 48 c_o_now_shelves_mark] s.heap.size = A at hD hAB ⊢
  have hA : ∀ q : Nat, s.heap.size ≤ q → A q := fun q h => by rw [← hAe]; exact Or.inr h
  have hFa := hA
  have hS : va_S A s.heap s.heap [] := va_S.rf
  have hBn := fun (H : Heap) (locs : List Loc) (h : va_S A s.heap H locs) => Nat.le_trans hB0 h.1
  have hEn := fun (H : Heap) (locs : List Loc) (h : va_S A s.heap H locs) => gE_now hE h hAB
  have hl := lv_entry ([.ref a0]) (n := 3) (Nat.le_of_ble_eq_true rfl)
  rw [lg_entry_eq]
  generalize (lg_sl ([.ref a0]) ++ List.replicate (3 - (lg_sl ([.ref a0])).length) Slot.unset).toArray = ls at hl ⊢
  have hl : lv_has ls 3 [(0, .ref a0)] := hl
  obtain ⟨H, hHe⟩ : ∃ H : Heap, H = s.heap := ⟨_, rfl⟩
  have hP : va_P D vwCl [oL a0 a_o a_d c_lanes c_positions c_gap c_products c_lots c_orders, oX7 a_o a_o_now a_o_past c_o_acts c_o_nextSlot a_o_plan a_o_picker a_o_rest a_o_packed, oX6 a_o_now c_o_now_today c_o_now_products c_o_now_itemCount a_o_now_items a_o_now_books a_o_now_terms a_o_now_shelves a_o_now_lots a_o_now_orders, oX5 a_o_now_shelves c_o_now_shelves_lanes c_o_now_shelves_positions c_o_now_shelves_room c_o_now_shelves_gap c_o_now_shelves_places c_o_now_shelves_picked a_o_now_shelves_lot a_o_now_shelves_pieces a_o_now_shelves_mark a_o_now_shelves_byDistance, rI cI a_o_now_shelves_lot 48 c_o_now_shelves_lot, rI cI a_o_now_shelves_pieces 48 c_o_now_shelves_pieces, rI cI a_o_now_shelves_mark 48 c_o_now_shelves_mark] H := by rw [hHe]; exact hP
  have hS : va_S A s.heap H [] := by rw [hHe]; exact hS
  refine W_heq hHe ?_
  unfold f_L_free at hf
  refine gen_goW (fun WW hWW => ?_)
  have hL4 : ∀ (n : Nat) (n1 : Int32) (n2 : Int32) (e1 : Int32), loop (fun z => f_L_free_L4 c_lanes c_positions c_o_now_shelves_positions c_o_now_shelves_gap c_o_now_shelves_places c_o_now_shelves_lot c_o_now_shelves_pieces c_o_now_shelves_mark z.1 z.2) n (n1, n2) = some e1 → (∀ (H : Heap) (locs : List Loc) (ls : Array Slot), va_P D vwCl [oL a0 a_o a_d c_lanes c_positions c_gap c_products c_lots c_orders, oX7 a_o a_o_now a_o_past c_o_acts c_o_nextSlot a_o_plan a_o_picker a_o_rest a_o_packed, oX6 a_o_now c_o_now_today c_o_now_products c_o_now_itemCount a_o_now_items a_o_now_books a_o_now_terms a_o_now_shelves a_o_now_lots a_o_now_orders, oX5 a_o_now_shelves c_o_now_shelves_lanes c_o_now_shelves_positions c_o_now_shelves_room c_o_now_shelves_gap c_o_now_shelves_places c_o_now_shelves_picked a_o_now_shelves_lot a_o_now_shelves_pieces a_o_now_shelves_mark a_o_now_shelves_byDistance, rI cI a_o_now_shelves_lot 48 c_o_now_shelves_lot, rI cI a_o_now_shelves_pieces 48 c_o_now_shelves_pieces, rI cI a_o_now_shelves_mark 48 c_o_now_shelves_mark] H → va_D A [oL a0 a_o a_d c_lanes c_positions c_gap c_products c_lots c_orders, oX7 a_o a_o_now a_o_past c_o_acts c_o_nextSlot a_o_plan a_o_picker a_o_rest a_o_packed, oX6 a_o_now c_o_now_today c_o_now_products c_o_now_itemCount a_o_now_items a_o_now_books a_o_now_terms a_o_now_shelves a_o_now_lots a_o_now_orders, oX5 a_o_now_shelves c_o_now_shelves_lanes c_o_now_shelves_positions c_o_now_shelves_room c_o_now_shelves_gap c_o_now_shelves_places c_o_now_shelves_picked a_o_now_shelves_lot a_o_now_shelves_pieces a_o_now_shelves_mark a_o_now_shelves_byDistance, rI cI a_o_now_shelves_lot 48 c_o_now_shelves_lot, rI cI a_o_now_shelves_pieces 48 c_o_now_shelves_pieces, rI cI a_o_now_shelves_mark 48 c_o_now_shelves_mark] → va_S A s.heap H locs → lv_has ls 3 [(1, .int e1)] → WW H locs 0 0 (F0 m 38 ls [])) → ∀ (H : Heap) (locs : List Loc) (ls : Array Slot), va_P D vwCl [oL a0 a_o a_d c_lanes c_positions c_gap c_products c_lots c_orders, oX7 a_o a_o_now a_o_past c_o_acts c_o_nextSlot a_o_plan a_o_picker a_o_rest a_o_packed, oX6 a_o_now c_o_now_today c_o_now_products c_o_now_itemCount a_o_now_items a_o_now_books a_o_now_terms a_o_now_shelves a_o_now_lots a_o_now_orders, oX5 a_o_now_shelves c_o_now_shelves_lanes c_o_now_shelves_positions c_o_now_shelves_room c_o_now_shelves_gap c_o_now_shelves_places c_o_now_shelves_picked a_o_now_shelves_lot a_o_now_shelves_pieces a_o_now_shelves_mark a_o_now_shelves_byDistance, rI cI a_o_now_shelves_lot 48 c_o_now_shelves_lot, rI cI a_o_now_shelves_pieces 48 c_o_now_shelves_pieces, rI cI a_o_now_shelves_mark 48 c_o_now_shelves_mark] H → va_D A [oL a0 a_o a_d c_lanes c_positions c_gap c_products c_lots c_orders, oX7 a_o a_o_now a_o_past c_o_acts c_o_nextSlot a_o_plan a_o_picker a_o_rest a_o_packed, oX6 a_o_now c_o_now_today c_o_now_products c_o_now_itemCount a_o_now_items a_o_now_books a_o_now_terms a_o_now_shelves a_o_now_lots a_o_now_orders, oX5 a_o_now_shelves c_o_now_shelves_lanes c_o_now_shelves_positions c_o_now_shelves_room c_o_now_shelves_gap c_o_now_shelves_places c_o_now_shelves_picked a_o_now_shelves_lot a_o_now_shelves_pieces a_o_now_shelves_mark a_o_now_shelves_byDistance, rI cI a_o_now_shelves_lot 48 c_o_now_shelves_lot, rI cI a_o_now_shelves_pieces 48 c_o_now_shelves_pieces, rI cI a_o_now_shelves_mark 48 c_o_now_shelves_mark] → va_S A s.heap H locs → lv_has ls 3 [(0, .ref a0), (1, .int n1), (2, .int n2)] → WW H locs 0 0 (F0 m 4 ls []) := by
    intro n
    induction n with
    | zero =>
      intro n1 n2 e1 hlp
      exact absurd hlp (by simp [loop])
    | succ n ih =>
      intro n1 n2 e1 hlp K H locs ls hP hD hS hl
      obtain ⟨x9, hf, hlp⟩ := loop_s hlp
      have hf : f_L_free_L4 c_lanes c_positions c_o_now_shelves_positions c_o_now_shelves_gap c_o_now_shelves_places c_o_now_shelves_lot c_o_now_shelves_pieces c_o_now_shelves_mark n1 n2 = some x9 := hf
      unfold f_L_free_L4 at hf
      have hJ32 : ∀ (n1 : Int32) (n2 : Int32), f_L_free_L4_J32 n1 n2 c_lanes c_positions c_o_now_shelves_positions c_o_now_shelves_gap c_o_now_shelves_places c_o_now_shelves_lot c_o_now_shelves_pieces c_o_now_shelves_mark = some x9 → ∀ (H : Heap) (locs : List Loc) (ls : Array Slot), va_P D vwCl [oL a0 a_o a_d c_lanes c_positions c_gap c_products c_lots c_orders, oX7 a_o a_o_now a_o_past c_o_acts c_o_nextSlot a_o_plan a_o_picker a_o_rest a_o_packed, oX6 a_o_now c_o_now_today c_o_now_products c_o_now_itemCount a_o_now_items a_o_now_books a_o_now_terms a_o_now_shelves a_o_now_lots a_o_now_orders, oX5 a_o_now_shelves c_o_now_shelves_lanes c_o_now_shelves_positions c_o_now_shelves_room c_o_now_shelves_gap c_o_now_shelves_places c_o_now_shelves_picked a_o_now_shelves_lot a_o_now_shelves_pieces a_o_now_shelves_mark a_o_now_shelves_byDistance, rI cI a_o_now_shelves_lot 48 c_o_now_shelves_lot, rI cI a_o_now_shelves_pieces 48 c_o_now_shelves_pieces, rI cI a_o_now_shelves_mark 48 c_o_now_shelves_mark] H → va_D A [oL a0 a_o a_d c_lanes c_positions c_gap c_products c_lots c_orders, oX7 a_o a_o_now a_o_past c_o_acts c_o_nextSlot a_o_plan a_o_picker a_o_rest a_o_packed, oX6 a_o_now c_o_now_today c_o_now_products c_o_now_itemCount a_o_now_items a_o_now_books a_o_now_terms a_o_now_shelves a_o_now_lots a_o_now_orders, oX5 a_o_now_shelves c_o_now_shelves_lanes c_o_now_shelves_positions c_o_now_shelves_room c_o_now_shelves_gap c_o_now_shelves_places c_o_now_shelves_picked a_o_now_shelves_lot a_o_now_shelves_pieces a_o_now_shelves_mark a_o_now_shelves_byDistance, rI cI a_o_now_shelves_lot 48 c_o_now_shelves_lot, rI cI a_o_now_shelves_pieces 48 c_o_now_shelves_pieces, rI cI a_o_now_shelves_mark 48 c_o_now_shelves_mark] → va_S A s.heap H locs → lv_has ls 3 [(0, .ref a0), (1, .int n1), (2, .int n2)] → WW H locs 0 0 (F0 m 32 ls []) := by
        intro n1 n2 hf H locs ls hP hD hS hl
        unfold f_L_free_L4_J32 at hf
        refine (hWW _ _ _ _ _).mpr ?_
        refine lv_iinc (v := (n2 + 1)) (lv' := [(2, .int (n2 + 1)), (0, .ref a0), (1, .int n1)]) hx hb dL_free_32 hl (k := 2) rfl rfl (by decide) rfl (fun ls hl => ?_)
        refine lv_goto (tgt := 4) hx hb dL_free_35 (by decide) ?_
        obtain rfl := Option.some.inj hf
        exact (hWW _ _ _ _ _).mp (ih  _ _ _ hlp K _ _ ls hP hD hS (lv_sub hl [1, 2, 0] rfl))
      refine (hWW _ _ _ _ _).mpr ?_
      refine lv_iload_n hx hb dL_free_4 rfl (lv_at hl 2 rfl) ?_
      refine lv_aload_n hx hb dL_free_5 rfl (lv_at hl 0 rfl) ?_
      refine va_get (D := D) (ci := 8) (v := .int c_lanes) (C := RL) (T := TL) (N := 8) hx hb hts (fun w h => mb (iL w h)) hown hK hP 0 rfl rfl 2 (by decide) (hts _ (mb tb_313)) (fun _ h9 => h9) rfl dL_free_6 ?_
      refine lv_aload_n hx hb dL_free_9 rfl (lv_at hl 0 rfl) ?_
      refine va_get (D := D) (ci := 8) (v := .int c_positions) (C := RL) (T := TL) (N := 8) hx hb hts (fun w h => mb (iL w h)) hown hK hP 0 rfl rfl 3 (by decide) (hts _ (mb tb_314)) (fun _ h9 => h9) rfl dL_free_10 ?_
      refine lv_imul hx hb dL_free_13 ?_
      refine lv_icmp_ge (tgt := 38) hx hb dL_free_14 (by decide) (fun h1 => ?_) (fun h1 => ?_)
      · have hf := ipos h1 hf
        obtain rfl := Option.some.inj hf
        cases lpx_r hlp
        exact (hWW _ _ _ _ _).mp (K _ _ ls hP hD hS (lv_sub hl [1] rfl))
      · have hf := ineg h1 hf
        refine lv_aload_n hx hb dL_free_17 rfl (lv_at hl 0 rfl) ?_
        refine va_get (D := D) (ci := 8) (v := .ref a_o) (C := RL) (T := TL) (N := 8) hx hb hts (fun w h => mb (iL w h)) hown hK hP 0 rfl rfl 0 (by decide) (hts _ (mb tb_311)) (fun _ h9 => h9) rfl dL_free_18 ?_
        refine lv_iload_n hx hb dL_free_21 rfl (lv_at hl 2 rfl) ?_
        refine lv_iconst (v := 1) hx hb dL_free_22 (by decide) ?_
        obtain ⟨r2, hc3, hf⟩ := ob1 hf
        refine rx_calli (r9 := r2) (vx_runV (As := [.int n2, .int 1]) (rest := []) ⟨hx, hb, hml, hown, hts⟩ (k_X7_placeAt l hl0 D cI cJ cZ cS B0 H a_o a_o_now a_o_past a_o_plan a_o_picker a_o_rest a_o_packed a_o_now_items a_o_now_books a_o_now_terms a_o_now_shelves a_o_now_lots a_o_now_orders a_o_now_shelves_lot a_o_now_shelves_pieces a_o_now_shelves_mark a_o_now_shelves_byDistance c_o_acts c_o_nextSlot c_o_now_today c_o_now_products c_o_now_itemCount c_o_now_shelves_lanes c_o_now_shelves_positions c_o_now_shelves_room c_o_now_shelves_gap c_o_now_shelves_places c_o_now_shelves_picked c_o_now_shelves_lot c_o_now_shelves_pieces c_o_now_shelves_mark n2 1 r2 hc3) (cwV 2 hts (gV tb_487 tb_488 tb_489 tb_1 tb_490) rfl rfl rfl (by decide +kernel) ⟨Nat.le_of_ble_eq_true rfl, Nat.le_of_ble_eq_true rfl⟩) ⟨rp_blind, va_recv hK hP (ci := 6) (q0 := 1) rfl rfl, rp_pre (hP.sub [1, 2, 3, 4, 5, 6] rfl) hK (hBn _ _ hS) (hEn _ _ hS)⟩ rfl rfl hl.1 rfl (lv_room (Nat.le_of_ble_eq_true rfl)) dL_free_23 ⟨Nat.le_of_ble_eq_true rfl, Nat.le_of_ble_eq_true rfl⟩) hS hA (fun E _ _ _ _ h9 _ _ _ _ _ _ => (mx_no hf h9).elim) (fun r2v h9 => ?_)
        have hf := mx_of hf h9
        clear h9
        refine lv_if_ne (tgt := 32) hx hb dL_free_26 (by decide) (fun h4 => ?_) (fun h4 => ?_)
        · have hf := ineg h4 hf
          exact (hWW _ _ _ _ _).mp (hJ32 _ _ hf _ _ ls hP hD hS (lv_sub hl [0, 1, 2] rfl))
        · have hf := ipos h4 hf
          refine lv_iinc (v := (n1 + 1)) (lv' := [(1, .int (n1 + 1)), (0, .ref a0), (2, .int n2)]) hx hb dL_free_29 hl (k := 1) rfl rfl (by decide) rfl (fun ls hl => ?_)
          exact (hWW _ _ _ _ _).mp (hJ32 _ _ hf _ _ ls hP hD hS (lv_sub hl [1, 0, 2] rfl))
  refine (hWW _ _ _ _ _).mpr ?_
  refine lv_iconst (v := 0) hx hb dL_free_0 (by decide) ?_
  refine lv_istore_n (lv' := [(1, .int 0), (0, .ref a0)]) hx hb dL_free_1 rfl hl (by decide) rfl (fun ls hl => ?_)
  refine lv_iconst (v := 0) hx hb dL_free_2 (by decide) ?_
  refine lv_istore_n (lv' := [(2, .int 0), (1, .int 0), (0, .ref a0)]) hx hb dL_free_3 rfl hl (by decide) rfl (fun ls hl => ?_)
  obtain ⟨m6, hc5, hf⟩ := ob1 hf
  refine (hWW _ _ _ _ _).mp (hL4 fu _ _ _ hc5 (fun H locs ls hP hD hS hl => ?_) _ _ ls hP hD hS (lv_sub hl [2, 1, 0] rfl))
  · refine (hWW _ _ _ _ _).mpr ?_
    refine lv_iload_n hx hb dL_free_38 rfl (lv_at hl 0 rfl) ?_
    cases hf
    refine W.widen (k := 1) (n := 6) (Nat.le_of_ble_eq_true rfl) (Nat.le_of_ble_eq_true rfl) ?_
    exact W.iret hx hb hr (fun t ht hW => ⟨⟨_, (), rfl, rfl, (by show va_P D vwCl _ t.heap; rw [ht]; exact hP)⟩, hS.F ht⟩) hS.2.2 dL_free_39
def f_L_isBooked_L4 (c_lanes : Int32) (c_positions : Int32) (c_products : Int32) (c_o_now_products : Int32) (c_o_now_books : Nat → Int32) (c_o_now_shelves_positions : Int32) (c_o_now_shelves_gap : Int32) (c_o_now_shelves_places : Int32) (c_o_now_shelves_lot : Nat → Int32) (c_o_now_shelves_pieces : Nat → Int32) (c_o_now_shelves_mark : Nat → Int32) (c_o_now_lots_count : Int32) (c_o_now_lots_product : Nat → Int32) (c_o_rest : Nat → Int32) (n1 : Int32) (n2 : Int32) : Option ((Int32 × Int32) ⊕ Int32) :=
  (if (c_lanes * c_positions) ≤ n2 then some (.inr n1)
  else bnd1 (f_X7_placeAt n2 1 c_o_now_shelves_positions c_o_now_shelves_gap c_o_now_shelves_places c_o_now_shelves_lot c_o_now_shelves_pieces c_o_now_shelves_mark) (fun r2 => mx r2 (fun _ => none) (fun r2v =>
  (some (.inl (n1 + r2v, n2 + 1))))))
def f_L_isBooked_L39 (n1 : Int32) (c_lanes : Int32) (c_positions : Int32) (c_products : Int32) (c_o_now_products : Int32) (c_o_now_books : Nat → Int32) (c_o_now_shelves_positions : Int32) (c_o_now_shelves_gap : Int32) (c_o_now_shelves_places : Int32) (c_o_now_shelves_lot : Nat → Int32) (c_o_now_shelves_pieces : Nat → Int32) (c_o_now_shelves_mark : Nat → Int32) (c_o_now_lots_count : Int32) (c_o_now_lots_product : Nat → Int32) (n2 : Int32) (n3 : Int32) (c_o_rest : Nat → Int32) : Option ((Int32 × Int32 × (Nat → Int32)) ⊕ (Int32 × (Nat → Int32))) :=
  (if c_products ≤ n3 then some (.inr (n2, c_o_rest))
  else bnd2 (f_X7_stock n3 c_o_now_products c_o_now_shelves_places c_o_now_shelves_lot c_o_now_shelves_pieces c_o_now_lots_count c_o_now_lots_product c_o_rest) (fun r7 o9 => mx r7 (fun _ => none) (fun r7v =>
  (some (.inl (n2 + r7v, n3 + 1, o9))))))
def f_L_isBooked (c_lanes : Int32) (c_positions : Int32) (c_products : Int32) (c_o_now_products : Int32) (c_o_now_books : Nat → Int32) (c_o_now_shelves_positions : Int32) (c_o_now_shelves_gap : Int32) (c_o_now_shelves_places : Int32) (c_o_now_shelves_lot : Nat → Int32) (c_o_now_shelves_pieces : Nat → Int32) (c_o_now_shelves_mark : Nat → Int32) (c_o_now_lots_count : Int32) (c_o_now_lots_product : Nat → Int32) (c_o_rest : Nat → Int32) : Option (Int32 × (Nat → Int32)) :=
  (bnd1 (loop (fun z => f_L_isBooked_L4 c_lanes c_positions c_products c_o_now_products c_o_now_books c_o_now_shelves_positions c_o_now_shelves_gap c_o_now_shelves_places c_o_now_shelves_lot c_o_now_shelves_pieces c_o_now_shelves_mark c_o_now_lots_count c_o_now_lots_product c_o_rest z.1 z.2) fu (0, 0)) fun m5 =>
  (bnd2 (loop (fun z => f_L_isBooked_L39 m5 c_lanes c_positions c_products c_o_now_products c_o_now_books c_o_now_shelves_positions c_o_now_shelves_gap c_o_now_shelves_places c_o_now_shelves_lot c_o_now_shelves_pieces c_o_now_shelves_mark c_o_now_lots_count c_o_now_lots_product z.1 z.2.1 z.2.2) 10 (0, 0, c_o_rest)) fun m11 c12 =>
  bnd1 (f_X7_book 6 c_o_now_books c_o_now_shelves_places c_o_now_shelves_pieces) (fun r13 => mx r13 (fun _ => none) (fun r13v =>
  ((if r13v = m5 then (if m11 = m5 then bnd1 (f_X7_book 0 c_o_now_books c_o_now_shelves_places c_o_now_shelves_pieces) (fun r17 => mx r17 (fun _ => none) (fun r17v =>
  (bnd1 (f_X7_book 2 c_o_now_books c_o_now_shelves_places c_o_now_shelves_pieces) (fun r19 => mx r19 (fun _ => none) (fun r19v =>
  (bnd1 (f_X7_book 5 c_o_now_books c_o_now_shelves_places c_o_now_shelves_pieces) (fun r21 => mx r21 (fun _ => none) (fun r21v =>
  (bnd1 (f_X7_book 1 c_o_now_books c_o_now_shelves_places c_o_now_shelves_pieces) (fun r23 => mx r23 (fun _ => none) (fun r23v =>
  (bnd1 (f_X7_book 3 c_o_now_books c_o_now_shelves_places c_o_now_shelves_pieces) (fun r25 => mx r25 (fun _ => none) (fun r25v =>
  (bnd1 (f_X7_book 4 c_o_now_books c_o_now_shelves_places c_o_now_shelves_pieces) (fun r27 => mx r27 (fun _ => none) (fun r27v =>
  ((if (((((r17v + r19v) + r21v) - r23v) - r25v) - r27v) = m5 then some (1, c12)
  else some (0, c12))))))))))))))))))))
  else some (0, c12))
  else some (0, c12)))))))
set_option maxHeartbeats 4000000 in
set_option maxRecDepth 100000 in
theorem k_L_isBooked (l : Launch) (hl0 : l.stackTraces = false) (D : va_G) (cI cJ cZ cS : ClassId) (B0 : Nat) (sz : Nat) (a0 a_o a_d a_o_now a_o_past a_o_plan a_o_picker a_o_rest a_o_packed a_o_now_items a_o_now_books a_o_now_terms a_o_now_shelves a_o_now_lots a_o_now_orders a_o_now_shelves_lot a_o_now_shelves_pieces a_o_now_shelves_mark a_o_now_shelves_byDistance a_o_now_lots_product a_o_now_lots_last a_o_now_lots_cost a_o_now_lots_state a_o_now_lots_byLast : Nat) (c_lanes : Int32) (c_positions : Int32) (c_gap : Int32) (c_products : Int32) (c_lots : Int32) (c_orders : Int32) (c_o_acts : Int32) (c_o_nextSlot : Int32) (c_o_now_today : Int32) (c_o_now_products : Int32) (c_o_now_itemCount : Int32) (c_o_now_books : Nat → Int32) (c_o_now_shelves_lanes : Int32) (c_o_now_shelves_positions : Int32) (c_o_now_shelves_room : Int32) (c_o_now_shelves_gap : Int32) (c_o_now_shelves_places : Int32) (c_o_now_shelves_picked : Int64) (c_o_now_shelves_lot : Nat → Int32) (c_o_now_shelves_pieces : Nat → Int32) (c_o_now_shelves_mark : Nat → Int32) (c_o_now_lots_count : Int32) (c_o_now_lots_product : Nat → Int32) (c_o_rest : Nat → Int32) (r9 : Int32) (oc_o_rest : Nat → Int32)  (hf : f_L_isBooked c_lanes c_positions c_products c_o_now_products c_o_now_books c_o_now_shelves_positions c_o_now_shelves_gap c_o_now_shelves_places c_o_now_shelves_lot c_o_now_shelves_pieces c_o_now_shelves_mark c_o_now_lots_count c_o_now_lots_product c_o_rest = some (r9, oc_o_rest)) : Met l yL_isBooked (wz yL_isBooked cL_isBooked 4 (some .boolean)) ({ frames := 8, cells := 11, slots := 66, locals := 134 }) (va_Pc [.ref a0] (wp D cI cJ cZ cS B0 [oL a0 a_o a_d c_lanes c_positions c_gap c_products c_lots c_orders, oX7 a_o a_o_now a_o_past c_o_acts c_o_nextSlot a_o_plan a_o_picker a_o_rest a_o_packed, oX6 a_o_now c_o_now_today c_o_now_products c_o_now_itemCount a_o_now_items a_o_now_books a_o_now_terms a_o_now_shelves a_o_now_lots a_o_now_orders, rI cI a_o_now_books 6 c_o_now_books, oX5 a_o_now_shelves c_o_now_shelves_lanes c_o_now_shelves_positions c_o_now_shelves_room c_o_now_shelves_gap c_o_now_shelves_places c_o_now_shelves_picked a_o_now_shelves_lot a_o_now_shelves_pieces a_o_now_shelves_mark a_o_now_shelves_byDistance, rI cI a_o_now_shelves_lot 48 c_o_now_shelves_lot, rI cI a_o_now_shelves_pieces 48 c_o_now_shelves_pieces, rI cI a_o_now_shelves_mark 48 c_o_now_shelves_mark, oX1 a_o_now_lots c_o_now_lots_count a_o_now_lots_product a_o_now_lots_last a_o_now_lots_cost a_o_now_lots_state a_o_now_lots_byLast, rI cI a_o_now_lots_product 24 c_o_now_lots_product, rI cI a_o_rest 24 c_o_rest] sz)) (va_Qi (fun (r2 : Int32) (_ : Unit) => r2 = r9) (fun _ t => va_P D vwCl [oL a0 a_o a_d c_lanes c_positions c_gap c_products c_lots c_orders, oX7 a_o a_o_now a_o_past c_o_acts c_o_nextSlot a_o_plan a_o_picker a_o_rest a_o_packed, oX6 a_o_now c_o_now_today c_o_now_products c_o_now_itemCount a_o_now_items a_o_now_books a_o_now_terms a_o_now_shelves a_o_now_lots a_o_now_orders, rI cI a_o_now_books 6 c_o_now_books, oX5 a_o_now_shelves c_o_now_shelves_lanes c_o_now_shelves_positions c_o_now_shelves_room c_o_now_shelves_gap c_o_now_shelves_places c_o_now_shelves_picked a_o_now_shelves_lot a_o_now_shelves_pieces a_o_now_shelves_mark a_o_now_shelves_byDistance, rI cI a_o_now_shelves_lot 48 c_o_now_shelves_lot, rI cI a_o_now_shelves_pieces 48 c_o_now_shelves_pieces, rI cI a_o_now_shelves_mark 48 c_o_now_shelves_mark, oX1 a_o_now_lots c_o_now_lots_count a_o_now_lots_product a_o_now_lots_last a_o_now_lots_cost a_o_now_lots_state a_o_now_lots_byLast, rI cI a_o_now_lots_product 24 c_o_now_lots_product, rI cI a_o_rest 24 oc_o_rest] t.heap) (va_A [oL a0 a_o a_d c_lanes c_positions c_gap c_products c_lots c_orders, oX7 a_o a_o_now a_o_past c_o_acts c_o_nextSlot a_o_plan a_o_picker a_o_rest a_o_packed, oX6 a_o_now c_o_now_today c_o_now_products c_o_now_itemCount a_o_now_items a_o_now_books a_o_now_terms a_o_now_shelves a_o_now_lots a_o_now_orders, rI cI a_o_now_books 6 c_o_now_books, oX5 a_o_now_shelves c_o_now_shelves_lanes c_o_now_shelves_positions c_o_now_shelves_room c_o_now_shelves_gap c_o_now_shelves_places c_o_now_shelves_picked a_o_now_shelves_lot a_o_now_shelves_pieces a_o_now_shelves_mark a_o_now_shelves_byDistance, rI cI a_o_now_shelves_lot 48 c_o_now_shelves_lot, rI cI a_o_now_shelves_pieces 48 c_o_now_shelves_pieces, rI cI a_o_now_shelves_mark 48 c_o_now_shelves_mark, oX1 a_o_now_lots c_o_now_lots_count a_o_now_lots_product a_o_now_lots_last a_o_now_lots_cost a_o_now_lots_state a_o_now_lots_byLast, rI cI a_o_now_lots_product 24 c_o_now_lots_product, rI cI a_o_rest 24 c_o_rest] sz)) 11 66 (va_A [oL a0 a_o a_d c_lanes c_positions c_gap c_products c_lots c_orders, oX7 a_o a_o_now a_o_past c_o_acts c_o_nextSlot a_o_plan a_o_picker a_o_rest a_o_packed, oX6 a_o_now c_o_now_today c_o_now_products c_o_now_itemCount a_o_now_items a_o_now_books a_o_now_terms a_o_now_shelves a_o_now_lots a_o_now_orders, rI cI a_o_now_books 6 c_o_now_books, oX5 a_o_now_shelves c_o_now_shelves_lanes c_o_now_shelves_positions c_o_now_shelves_room c_o_now_shelves_gap c_o_now_shelves_places c_o_now_shelves_picked a_o_now_shelves_lot a_o_now_shelves_pieces a_o_now_shelves_mark a_o_now_shelves_byDistance, rI cI a_o_now_shelves_lot 48 c_o_now_shelves_lot, rI cI a_o_now_shelves_pieces 48 c_o_now_shelves_pieces, rI cI a_o_now_shelves_mark 48 c_o_now_shelves_mark, oX1 a_o_now_lots c_o_now_lots_count a_o_now_lots_product a_o_now_lots_last a_o_now_lots_cost a_o_now_lots_state a_o_now_lots_byLast, rI cI a_o_now_lots_product 24 c_o_now_lots_product, rI cI a_o_rest 24 c_o_rest] sz) := by
  refine Met.ofW (cc := cL_isBooked) (maxL := 4) (ret := (some .boolean)) (by decide) rfl ?_
  intro p e s m args below meth c s₁ B hml hv
  obtain ⟨rfl, hsz, hP, hK, hD0, hB0, hE⟩ := hv
  subst hsz
  have hx := B.exec
  have hb := B.bytes
  have hr := B.returns
  have hts := atoms_spec (ws := (wz yL_isBooked cL_isBooked 4 (some .boolean))) B.pre
  have hown : s.vm.findClass RL = some m.cls := findClass_of_methodNamed B.named
  have hlocks := B.notSynchronized
  have hD := hD0.self (sz := s.heap.size)
  have hAB : ∀ q : Nat, va_A [oL a0 a_o a_d c_lanes c_positions c_gap c_products c_lots c_orders, oX7 a_o a_o_now a_o_past c_o_acts c_o_nextSlot a_o_plan a_o_picker a_o_rest a_o_packed, oX6 a_o_now c_o_now_today c_o_now_products c_o_now_itemCount a_o_now_items a_o_now_books a_o_now_terms a_o_now_shelves a_o_now_lots a_o_now_orders, rI cI a_o_now_books 6 c_o_now_books, oX5 a_o_now_shelves c_o_now_shelves_lanes c_o_now_shelves_positions c_o_now_shelves_room c_o_now_shelves_gap c_o_now_shelves_places c_o_now_shelves_picked a_o_now_shelves_lot a_o_now_shelves_pieces a_o_now_shelves_mark a_o_now_shelves_byDistance, rI cI a_o_now_shelves_lot 48 c_o_now_shelves_lot, rI cI a_o_now_shelves_pieces 48 c_o_now_shelves_pieces, rI cI a_o_now_shelves_mark 48 c_o_now_shelves_mark, oX1 a_o_now_lots c_o_now_lots_count a_o_now_lots_product a_o_now_lots_last a_o_now_lots_cost a_o_now_lots_state a_o_now_lots_byLast, rI cI a_o_now_lots_product 24 c_o_now_lots_product, rI cI a_o_rest 24 c_o_rest] s.heap.size q → B0 ≤ q := va_A_B hD0 hB0
  generalize hAe : va_A [oL a0 a_o a_d c_lanes c_positions c_gap c_products c_lots c_orders, oX7 a_o a_o_now a_o_past c_o_acts c_o_nextSlot a_o_plan a_o_picker a_o_rest a_o_packed, oX6 a_o_now c_o_now_today c_o_now_products c_o_now_itemCount a_o_now_items a_o_now_books a_o_now_terms a_o_now_shelves a_o_now_lots a_o_now_orders, rI cI a_o_now_books 6 c_o_now_books, oX5 a_o_now_shelves c_o_now_shelves_lanes c_o_now_shelves_positions c_o_now_shelves_room c_o_now_shelves_gap c_o_now_shelves_places c_o_now_shelves_picked a_o_now_shelves_lot a_o_now_shelves_pieces a_o_now_shelves_mark a_o_now_shelves_byDistance, rI cI a_o_now_shelves_lot 48 c_o_now_shelves_lot, rI cI a_o_now_shelves_pieces 48 c_o_now_shelves_pieces, rI cI a_o_now_shelves_mark 48 c_o_now_shelves_mark, oX1 a_o_now_lots c_o_now_lots_count a_o_now_lots_product a_o_now_lots_last a_o_now_lots_cost a_o_now_lots_state a_o_now_lots_byLast, rI cI a_o_now_lots_product 24 c_o_now_lots_product, rI cI a_o_rest 24 c_o_rest] s.heap.size = A at hD hAB ⊢
  have hA : ∀ q : Nat, s.heap.size ≤ q → A q := fun q h => by rw [← hAe]; exact Or.inr h
  have hFa := hA
  have hS : va_S A s.heap s.heap [] := va_S.rf
  have hBn := fun (H : Heap) (locs : List Loc) (h : va_S A s.heap H locs) => Nat.le_trans hB0 h.1
  have hEn := fun (H : Heap) (locs : List Loc) (h : va_S A s.heap H locs) => gE_now hE h hAB
  have hl := lv_entry ([.ref a0]) (n := 4) (Nat.le_of_ble_eq_true rfl)
  rw [lg_entry_eq]
  generalize (lg_sl ([.ref a0]) ++ List.replicate (4 - (lg_sl ([.ref a0])).length) Slot.unset).toArray = ls at hl ⊢
  have hl : lv_has ls 4 [(0, .ref a0)] := hl
  obtain ⟨H, hHe⟩ : ∃ H : Heap, H = s.heap := ⟨_, rfl⟩
  have hP : va_P D vwCl [oL a0 a_o a_d c_lanes c_positions c_gap c_products c_lots c_orders, oX7 a_o a_o_now a_o_past c_o_acts c_o_nextSlot a_o_plan a_o_picker a_o_rest a_o_packed, oX6 a_o_now c_o_now_today c_o_now_products c_o_now_itemCount a_o_now_items a_o_now_books a_o_now_terms a_o_now_shelves a_o_now_lots a_o_now_orders, rI cI a_o_now_books 6 c_o_now_books, oX5 a_o_now_shelves c_o_now_shelves_lanes c_o_now_shelves_positions c_o_now_shelves_room c_o_now_shelves_gap c_o_now_shelves_places c_o_now_shelves_picked a_o_now_shelves_lot a_o_now_shelves_pieces a_o_now_shelves_mark a_o_now_shelves_byDistance, rI cI a_o_now_shelves_lot 48 c_o_now_shelves_lot, rI cI a_o_now_shelves_pieces 48 c_o_now_shelves_pieces, rI cI a_o_now_shelves_mark 48 c_o_now_shelves_mark, oX1 a_o_now_lots c_o_now_lots_count a_o_now_lots_product a_o_now_lots_last a_o_now_lots_cost a_o_now_lots_state a_o_now_lots_byLast, rI cI a_o_now_lots_product 24 c_o_now_lots_product, rI cI a_o_rest 24 c_o_rest] H := by rw [hHe]; exact hP
  have hS : va_S A s.heap H [] := by rw [hHe]; exact hS
  refine W_heq hHe ?_
  unfold f_L_isBooked at hf
  refine gen_goW (fun WW hWW => ?_)
  have hL4 : ∀ (n : Nat) (c_o_rest : Nat → Int32) (n1 : Int32) (n2 : Int32) (e1 : Int32), loop (fun z => f_L_isBooked_L4 c_lanes c_positions c_products c_o_now_products c_o_now_books c_o_now_shelves_positions c_o_now_shelves_gap c_o_now_shelves_places c_o_now_shelves_lot c_o_now_shelves_pieces c_o_now_shelves_mark c_o_now_lots_count c_o_now_lots_product c_o_rest z.1 z.2) n (n1, n2) = some e1 → (∀ (H : Heap) (locs : List Loc) (ls : Array Slot), va_P D vwCl [oL a0 a_o a_d c_lanes c_positions c_gap c_products c_lots c_orders, oX7 a_o a_o_now a_o_past c_o_acts c_o_nextSlot a_o_plan a_o_picker a_o_rest a_o_packed, oX6 a_o_now c_o_now_today c_o_now_products c_o_now_itemCount a_o_now_items a_o_now_books a_o_now_terms a_o_now_shelves a_o_now_lots a_o_now_orders, rI cI a_o_now_books 6 c_o_now_books, oX5 a_o_now_shelves c_o_now_shelves_lanes c_o_now_shelves_positions c_o_now_shelves_room c_o_now_shelves_gap c_o_now_shelves_places c_o_now_shelves_picked a_o_now_shelves_lot a_o_now_shelves_pieces a_o_now_shelves_mark a_o_now_shelves_byDistance, rI cI a_o_now_shelves_lot 48 c_o_now_shelves_lot, rI cI a_o_now_shelves_pieces 48 c_o_now_shelves_pieces, rI cI a_o_now_shelves_mark 48 c_o_now_shelves_mark, oX1 a_o_now_lots c_o_now_lots_count a_o_now_lots_product a_o_now_lots_last a_o_now_lots_cost a_o_now_lots_state a_o_now_lots_byLast, rI cI a_o_now_lots_product 24 c_o_now_lots_product, rI cI a_o_rest 24 c_o_rest] H → va_D A [oL a0 a_o a_d c_lanes c_positions c_gap c_products c_lots c_orders, oX7 a_o a_o_now a_o_past c_o_acts c_o_nextSlot a_o_plan a_o_picker a_o_rest a_o_packed, oX6 a_o_now c_o_now_today c_o_now_products c_o_now_itemCount a_o_now_items a_o_now_books a_o_now_terms a_o_now_shelves a_o_now_lots a_o_now_orders, rI cI a_o_now_books 6 c_o_now_books, oX5 a_o_now_shelves c_o_now_shelves_lanes c_o_now_shelves_positions c_o_now_shelves_room c_o_now_shelves_gap c_o_now_shelves_places c_o_now_shelves_picked a_o_now_shelves_lot a_o_now_shelves_pieces a_o_now_shelves_mark a_o_now_shelves_byDistance, rI cI a_o_now_shelves_lot 48 c_o_now_shelves_lot, rI cI a_o_now_shelves_pieces 48 c_o_now_shelves_pieces, rI cI a_o_now_shelves_mark 48 c_o_now_shelves_mark, oX1 a_o_now_lots c_o_now_lots_count a_o_now_lots_product a_o_now_lots_last a_o_now_lots_cost a_o_now_lots_state a_o_now_lots_byLast, rI cI a_o_now_lots_product 24 c_o_now_lots_product, rI cI a_o_rest 24 c_o_rest] → va_S A s.heap H locs → lv_has ls 4 [(0, .ref a0), (1, .int e1)] → WW H locs 0 0 (F0 m 35 ls [])) → ∀ (H : Heap) (locs : List Loc) (ls : Array Slot), va_P D vwCl [oL a0 a_o a_d c_lanes c_positions c_gap c_products c_lots c_orders, oX7 a_o a_o_now a_o_past c_o_acts c_o_nextSlot a_o_plan a_o_picker a_o_rest a_o_packed, oX6 a_o_now c_o_now_today c_o_now_products c_o_now_itemCount a_o_now_items a_o_now_books a_o_now_terms a_o_now_shelves a_o_now_lots a_o_now_orders, rI cI a_o_now_books 6 c_o_now_books, oX5 a_o_now_shelves c_o_now_shelves_lanes c_o_now_shelves_positions c_o_now_shelves_room c_o_now_shelves_gap c_o_now_shelves_places c_o_now_shelves_picked a_o_now_shelves_lot a_o_now_shelves_pieces a_o_now_shelves_mark a_o_now_shelves_byDistance, rI cI a_o_now_shelves_lot 48 c_o_now_shelves_lot, rI cI a_o_now_shelves_pieces 48 c_o_now_shelves_pieces, rI cI a_o_now_shelves_mark 48 c_o_now_shelves_mark, oX1 a_o_now_lots c_o_now_lots_count a_o_now_lots_product a_o_now_lots_last a_o_now_lots_cost a_o_now_lots_state a_o_now_lots_byLast, rI cI a_o_now_lots_product 24 c_o_now_lots_product, rI cI a_o_rest 24 c_o_rest] H → va_D A [oL a0 a_o a_d c_lanes c_positions c_gap c_products c_lots c_orders, oX7 a_o a_o_now a_o_past c_o_acts c_o_nextSlot a_o_plan a_o_picker a_o_rest a_o_packed, oX6 a_o_now c_o_now_today c_o_now_products c_o_now_itemCount a_o_now_items a_o_now_books a_o_now_terms a_o_now_shelves a_o_now_lots a_o_now_orders, rI cI a_o_now_books 6 c_o_now_books, oX5 a_o_now_shelves c_o_now_shelves_lanes c_o_now_shelves_positions c_o_now_shelves_room c_o_now_shelves_gap c_o_now_shelves_places c_o_now_shelves_picked a_o_now_shelves_lot a_o_now_shelves_pieces a_o_now_shelves_mark a_o_now_shelves_byDistance, rI cI a_o_now_shelves_lot 48 c_o_now_shelves_lot, rI cI a_o_now_shelves_pieces 48 c_o_now_shelves_pieces, rI cI a_o_now_shelves_mark 48 c_o_now_shelves_mark, oX1 a_o_now_lots c_o_now_lots_count a_o_now_lots_product a_o_now_lots_last a_o_now_lots_cost a_o_now_lots_state a_o_now_lots_byLast, rI cI a_o_now_lots_product 24 c_o_now_lots_product, rI cI a_o_rest 24 c_o_rest] → va_S A s.heap H locs → lv_has ls 4 [(0, .ref a0), (1, .int n1), (2, .int n2)] → WW H locs 0 0 (F0 m 4 ls []) := by
    intro n
    induction n with
    | zero =>
      intro c_o_rest n1 n2 e1 hlp
      exact absurd hlp (by simp [loop])
    | succ n ih =>
      intro c_o_rest n1 n2 e1 hlp K H locs ls hP hD hS hl
      obtain ⟨x9, hf, hlp⟩ := loop_s hlp
      have hf : f_L_isBooked_L4 c_lanes c_positions c_products c_o_now_products c_o_now_books c_o_now_shelves_positions c_o_now_shelves_gap c_o_now_shelves_places c_o_now_shelves_lot c_o_now_shelves_pieces c_o_now_shelves_mark c_o_now_lots_count c_o_now_lots_product c_o_rest n1 n2 = some x9 := hf
      unfold f_L_isBooked_L4 at hf
      refine (hWW _ _ _ _ _).mpr ?_
      refine lv_iload_n hx hb dL_isBooked_4 rfl (lv_at hl 2 rfl) ?_
      refine lv_aload_n hx hb dL_isBooked_5 rfl (lv_at hl 0 rfl) ?_
      refine va_get (D := D) (ci := 8) (v := .int c_lanes) (C := RL) (T := TL) (N := 8) hx hb hts (fun w h => mb (iL w h)) hown hK hP 0 rfl rfl 2 (by decide) (hts _ (mb tb_313)) (fun _ h9 => h9) rfl dL_isBooked_6 ?_
      refine lv_aload_n hx hb dL_isBooked_9 rfl (lv_at hl 0 rfl) ?_
      refine va_get (D := D) (ci := 8) (v := .int c_positions) (C := RL) (T := TL) (N := 8) hx hb hts (fun w h => mb (iL w h)) hown hK hP 0 rfl rfl 3 (by decide) (hts _ (mb tb_314)) (fun _ h9 => h9) rfl dL_isBooked_10 ?_
      refine lv_imul hx hb dL_isBooked_13 ?_
      refine lv_icmp_ge (tgt := 35) hx hb dL_isBooked_14 (by decide) (fun h1 => ?_) (fun h1 => ?_)
      · have hf := ipos h1 hf
        obtain rfl := Option.some.inj hf
        cases lpx_r hlp
        exact (hWW _ _ _ _ _).mp (K _ _ ls hP hD hS (lv_sub hl [0, 1] rfl))
      · have hf := ineg h1 hf
        refine lv_iload_n hx hb dL_isBooked_17 rfl (lv_at hl 1 rfl) ?_
        refine lv_aload_n hx hb dL_isBooked_18 rfl (lv_at hl 0 rfl) ?_
        refine va_get (D := D) (ci := 8) (v := .ref a_o) (C := RL) (T := TL) (N := 8) hx hb hts (fun w h => mb (iL w h)) hown hK hP 0 rfl rfl 0 (by decide) (hts _ (mb tb_311)) (fun _ h9 => h9) rfl dL_isBooked_19 ?_
        refine lv_iload_n hx hb dL_isBooked_22 rfl (lv_at hl 2 rfl) ?_
        refine lv_iconst (v := 1) hx hb dL_isBooked_23 (by decide) ?_
        obtain ⟨r2, hc3, hf⟩ := ob1 hf
        refine rx_calli (r9 := r2) (vx_runV (As := [.int n2, .int 1]) (rest := [.int n1]) ⟨hx, hb, hml, hown, hts⟩ (k_X7_placeAt l hl0 D cI cJ cZ cS B0 H a_o a_o_now a_o_past a_o_plan a_o_picker a_o_rest a_o_packed a_o_now_items a_o_now_books a_o_now_terms a_o_now_shelves a_o_now_lots a_o_now_orders a_o_now_shelves_lot a_o_now_shelves_pieces a_o_now_shelves_mark a_o_now_shelves_byDistance c_o_acts c_o_nextSlot c_o_now_today c_o_now_products c_o_now_itemCount c_o_now_shelves_lanes c_o_now_shelves_positions c_o_now_shelves_room c_o_now_shelves_gap c_o_now_shelves_places c_o_now_shelves_picked c_o_now_shelves_lot c_o_now_shelves_pieces c_o_now_shelves_mark n2 1 r2 hc3) (cwV 2 hts (gV tb_487 tb_488 tb_489 tb_1 tb_490) rfl rfl rfl (by decide +kernel) ⟨Nat.le_of_ble_eq_true rfl, Nat.le_of_ble_eq_true rfl⟩) ⟨rp_blind, va_recv hK hP (ci := 6) (q0 := 1) rfl rfl, rp_pre (hP.sub [1, 2, 4, 5, 6, 7] rfl) hK (hBn _ _ hS) (hEn _ _ hS)⟩ rfl rfl hl.1 rfl (lv_room (Nat.le_of_ble_eq_true rfl)) dL_isBooked_24 ⟨Nat.le_of_ble_eq_true rfl, Nat.le_of_ble_eq_true rfl⟩) hS hA (fun E _ _ _ _ h9 _ _ _ _ _ _ => (mx_no hf h9).elim) (fun r2v h9 => ?_)
        have hf := mx_of hf h9
        clear h9
        refine lv_iadd hx hb dL_isBooked_27 ?_
        refine lv_istore_n (lv' := [(1, .int (n1 + r2v)), (0, .ref a0), (2, .int n2)]) hx hb dL_isBooked_28 rfl hl (by decide) rfl (fun ls hl => ?_)
        refine lv_iinc (v := (n2 + 1)) (lv' := [(2, .int (n2 + 1)), (1, .int (n1 + r2v)), (0, .ref a0)]) hx hb dL_isBooked_29 hl (k := 2) rfl rfl (by decide) rfl (fun ls hl => ?_)
        refine lv_goto (tgt := 4) hx hb dL_isBooked_32 (by decide) ?_
        obtain rfl := Option.some.inj hf
        exact (hWW _ _ _ _ _).mp (ih _ _ _ _ hlp K _ _ ls hP hD hS (lv_sub hl [2, 1, 0] rfl))
  have hL39 : ∀ (n : Nat) (c9 s9 : Nat), c9 + 1 * n ≤ 10 → s9 + 6 * n ≤ 60 → ∀ (n1 : Int32) (n2 : Int32) (n3 : Int32) (c_o_rest : Nat → Int32) (e2 : Int32) (e_c_o_rest : Nat → Int32), loop (fun z => f_L_isBooked_L39 n1 c_lanes c_positions c_products c_o_now_products c_o_now_books c_o_now_shelves_positions c_o_now_shelves_gap c_o_now_shelves_places c_o_now_shelves_lot c_o_now_shelves_pieces c_o_now_shelves_mark c_o_now_lots_count c_o_now_lots_product z.1 z.2.1 z.2.2) n (n2, n3, c_o_rest) = some (e2, e_c_o_rest) → (∀ (H : Heap) (locs : List Loc) (ls : Array Slot), va_P D vwCl [oL a0 a_o a_d c_lanes c_positions c_gap c_products c_lots c_orders, oX7 a_o a_o_now a_o_past c_o_acts c_o_nextSlot a_o_plan a_o_picker a_o_rest a_o_packed, oX6 a_o_now c_o_now_today c_o_now_products c_o_now_itemCount a_o_now_items a_o_now_books a_o_now_terms a_o_now_shelves a_o_now_lots a_o_now_orders, rI cI a_o_now_books 6 c_o_now_books, oX5 a_o_now_shelves c_o_now_shelves_lanes c_o_now_shelves_positions c_o_now_shelves_room c_o_now_shelves_gap c_o_now_shelves_places c_o_now_shelves_picked a_o_now_shelves_lot a_o_now_shelves_pieces a_o_now_shelves_mark a_o_now_shelves_byDistance, rI cI a_o_now_shelves_lot 48 c_o_now_shelves_lot, rI cI a_o_now_shelves_pieces 48 c_o_now_shelves_pieces, rI cI a_o_now_shelves_mark 48 c_o_now_shelves_mark, oX1 a_o_now_lots c_o_now_lots_count a_o_now_lots_product a_o_now_lots_last a_o_now_lots_cost a_o_now_lots_state a_o_now_lots_byLast, rI cI a_o_now_lots_product 24 c_o_now_lots_product, rI cI a_o_rest 24 e_c_o_rest] H → va_D A [oL a0 a_o a_d c_lanes c_positions c_gap c_products c_lots c_orders, oX7 a_o a_o_now a_o_past c_o_acts c_o_nextSlot a_o_plan a_o_picker a_o_rest a_o_packed, oX6 a_o_now c_o_now_today c_o_now_products c_o_now_itemCount a_o_now_items a_o_now_books a_o_now_terms a_o_now_shelves a_o_now_lots a_o_now_orders, rI cI a_o_now_books 6 c_o_now_books, oX5 a_o_now_shelves c_o_now_shelves_lanes c_o_now_shelves_positions c_o_now_shelves_room c_o_now_shelves_gap c_o_now_shelves_places c_o_now_shelves_picked a_o_now_shelves_lot a_o_now_shelves_pieces a_o_now_shelves_mark a_o_now_shelves_byDistance, rI cI a_o_now_shelves_lot 48 c_o_now_shelves_lot, rI cI a_o_now_shelves_pieces 48 c_o_now_shelves_pieces, rI cI a_o_now_shelves_mark 48 c_o_now_shelves_mark, oX1 a_o_now_lots c_o_now_lots_count a_o_now_lots_product a_o_now_lots_last a_o_now_lots_cost a_o_now_lots_state a_o_now_lots_byLast, rI cI a_o_now_lots_product 24 c_o_now_lots_product, rI cI a_o_rest 24 e_c_o_rest] → va_S A s.heap H locs → lv_has ls 4 [(0, .ref a0), (1, .int n1), (2, .int e2)] → WW H locs 10 60 (F0 m 64 ls [])) → ∀ (H : Heap) (locs : List Loc) (ls : Array Slot), va_P D vwCl [oL a0 a_o a_d c_lanes c_positions c_gap c_products c_lots c_orders, oX7 a_o a_o_now a_o_past c_o_acts c_o_nextSlot a_o_plan a_o_picker a_o_rest a_o_packed, oX6 a_o_now c_o_now_today c_o_now_products c_o_now_itemCount a_o_now_items a_o_now_books a_o_now_terms a_o_now_shelves a_o_now_lots a_o_now_orders, rI cI a_o_now_books 6 c_o_now_books, oX5 a_o_now_shelves c_o_now_shelves_lanes c_o_now_shelves_positions c_o_now_shelves_room c_o_now_shelves_gap c_o_now_shelves_places c_o_now_shelves_picked a_o_now_shelves_lot a_o_now_shelves_pieces a_o_now_shelves_mark a_o_now_shelves_byDistance, rI cI a_o_now_shelves_lot 48 c_o_now_shelves_lot, rI cI a_o_now_shelves_pieces 48 c_o_now_shelves_pieces, rI cI a_o_now_shelves_mark 48 c_o_now_shelves_mark, oX1 a_o_now_lots c_o_now_lots_count a_o_now_lots_product a_o_now_lots_last a_o_now_lots_cost a_o_now_lots_state a_o_now_lots_byLast, rI cI a_o_now_lots_product 24 c_o_now_lots_product, rI cI a_o_rest 24 c_o_rest] H → va_D A [oL a0 a_o a_d c_lanes c_positions c_gap c_products c_lots c_orders, oX7 a_o a_o_now a_o_past c_o_acts c_o_nextSlot a_o_plan a_o_picker a_o_rest a_o_packed, oX6 a_o_now c_o_now_today c_o_now_products c_o_now_itemCount a_o_now_items a_o_now_books a_o_now_terms a_o_now_shelves a_o_now_lots a_o_now_orders, rI cI a_o_now_books 6 c_o_now_books, oX5 a_o_now_shelves c_o_now_shelves_lanes c_o_now_shelves_positions c_o_now_shelves_room c_o_now_shelves_gap c_o_now_shelves_places c_o_now_shelves_picked a_o_now_shelves_lot a_o_now_shelves_pieces a_o_now_shelves_mark a_o_now_shelves_byDistance, rI cI a_o_now_shelves_lot 48 c_o_now_shelves_lot, rI cI a_o_now_shelves_pieces 48 c_o_now_shelves_pieces, rI cI a_o_now_shelves_mark 48 c_o_now_shelves_mark, oX1 a_o_now_lots c_o_now_lots_count a_o_now_lots_product a_o_now_lots_last a_o_now_lots_cost a_o_now_lots_state a_o_now_lots_byLast, rI cI a_o_now_lots_product 24 c_o_now_lots_product, rI cI a_o_rest 24 c_o_rest] → va_S A s.heap H locs → lv_has ls 4 [(0, .ref a0), (1, .int n1), (2, .int n2), (3, .int n3)] → WW H locs c9 s9 (F0 m 39 ls []) := by
    intro n
    induction n with
    | zero =>
      intro c9 s9 hcap hsap n1 n2 n3 c_o_rest e2 e_c_o_rest hlp
      exact absurd hlp (by simp [loop])
    | succ n ih =>
      intro c9 s9 hcap hsap n1 n2 n3 c_o_rest e2 e_c_o_rest hlp K H locs ls hP hD hS hl
      have hc1 : c9 + 1 ≤ 10 := by omega
      have hs1 : s9 + 6 ≤ 60 := by omega
      obtain ⟨x9, hf, hlp⟩ := loop_s hlp
      have hf : f_L_isBooked_L39 n1 c_lanes c_positions c_products c_o_now_products c_o_now_books c_o_now_shelves_positions c_o_now_shelves_gap c_o_now_shelves_places c_o_now_shelves_lot c_o_now_shelves_pieces c_o_now_shelves_mark c_o_now_lots_count c_o_now_lots_product n2 n3 c_o_rest = some x9 := hf
      unfold f_L_isBooked_L39 at hf
      refine (hWW _ _ _ _ _).mpr ?_
      refine lv_iload_n hx hb dL_isBooked_39 rfl (lv_at hl 3 rfl) ?_
      refine lv_aload_n hx hb dL_isBooked_40 rfl (lv_at hl 0 rfl) ?_
      refine va_get (D := D) (ci := 8) (v := .int c_products) (C := RL) (T := TL) (N := 8) hx hb hts (fun w h => mb (iL w h)) hown hK hP 0 rfl rfl 5 (by decide) (hts _ (mb tb_316)) (fun _ h9 => h9) rfl dL_isBooked_41 ?_
      refine lv_icmp_ge (tgt := 64) hx hb dL_isBooked_44 (by decide) (fun h6 => ?_) (fun h6 => ?_)
      · have hf := ipos h6 hf
        obtain rfl := Option.some.inj hf
        cases lpx_r hlp
        refine W.widen (k := 10) (n := 60) (show (c9 + 0) ≤ 10 by omega) (show (s9 + 0) ≤ 60 by omega) ?_
        exact (hWW _ _ _ _ _).mp (K _ _ ls hP hD hS (lv_sub hl [0, 1, 2] rfl))
      · have hf := ineg h6 hf
        refine lv_iload_n hx hb dL_isBooked_47 rfl (lv_at hl 2 rfl) ?_
        refine lv_aload_n hx hb dL_isBooked_48 rfl (lv_at hl 0 rfl) ?_
        refine va_get (D := D) (ci := 8) (v := .ref a_o) (C := RL) (T := TL) (N := 8) hx hb hts (fun w h => mb (iL w h)) hown hK hP 0 rfl rfl 0 (by decide) (hts _ (mb tb_311)) (fun _ h9 => h9) rfl dL_isBooked_49 ?_
        refine lv_iload_n hx hb dL_isBooked_52 rfl (lv_at hl 3 rfl) ?_
        obtain ⟨r7, o9, hc8, hf⟩ := ob2 hf
        refine rwx_calli (r9 := r7) (vx_runV (As := [.int n3]) (rest := [.int n2]) ⟨hx, hb, hml, hown, hts⟩ (k_X7_stock l hl0 D cI cJ cZ cS B0 H.size a_o a_o_now a_o_past a_o_plan a_o_picker a_o_rest a_o_packed a_o_now_items a_o_now_books a_o_now_terms a_o_now_shelves a_o_now_lots a_o_now_orders a_o_now_shelves_lot a_o_now_shelves_pieces a_o_now_shelves_mark a_o_now_shelves_byDistance a_o_now_lots_product a_o_now_lots_last a_o_now_lots_cost a_o_now_lots_state a_o_now_lots_byLast c_o_acts c_o_nextSlot c_o_now_today c_o_now_products c_o_now_itemCount c_o_now_shelves_lanes c_o_now_shelves_positions c_o_now_shelves_room c_o_now_shelves_gap c_o_now_shelves_places c_o_now_shelves_picked c_o_now_shelves_lot c_o_now_shelves_pieces c_o_now_lots_count c_o_now_lots_product c_o_rest n3 r7 o9 hc8) (cwV 1 hts (gV tb_593 tb_594 tb_595 tb_1 tb_596) rfl rfl rfl (by decide +kernel) ⟨Nat.le_of_ble_eq_true rfl, Nat.le_of_ble_eq_true rfl⟩) ⟨wp_blind, va_recv hK hP (ci := 6) (q0 := 1) rfl rfl, wp_pre (hP.sub [1, 2, 4, 5, 6, 8, 9, 10] rfl) hK (va_D.sub (hD.weaken (fun _ _ _ h9 => hAB _ h9)) [1, 2, 4, 5, 6, 8, 9, 10] rfl rfl) (hBn _ _ hS) (hEn _ _ hS)⟩ rfl rfl hl.1 rfl (lv_room (Nat.le_of_ble_eq_true rfl)) dL_isBooked_53 ⟨(show (c9 + 0) + 1 ≤ 11 by omega), (show (s9 + 0) + 6 ≤ 66 by omega)⟩) hP hD hS hA [oL a0 a_o a_d c_lanes c_positions c_gap c_products c_lots c_orders, oX7 a_o a_o_now a_o_past c_o_acts c_o_nextSlot a_o_plan a_o_picker a_o_rest a_o_packed, oX6 a_o_now c_o_now_today c_o_now_products c_o_now_itemCount a_o_now_items a_o_now_books a_o_now_terms a_o_now_shelves a_o_now_lots a_o_now_orders, rI cI a_o_now_books 6 c_o_now_books, oX5 a_o_now_shelves c_o_now_shelves_lanes c_o_now_shelves_positions c_o_now_shelves_room c_o_now_shelves_gap c_o_now_shelves_places c_o_now_shelves_picked a_o_now_shelves_lot a_o_now_shelves_pieces a_o_now_shelves_mark a_o_now_shelves_byDistance, rI cI a_o_now_shelves_lot 48 c_o_now_shelves_lot, rI cI a_o_now_shelves_pieces 48 c_o_now_shelves_pieces, rI cI a_o_now_shelves_mark 48 c_o_now_shelves_mark, oX1 a_o_now_lots c_o_now_lots_count a_o_now_lots_product a_o_now_lots_last a_o_now_lots_cost a_o_now_lots_state a_o_now_lots_byLast, rI cI a_o_now_lots_product 24 c_o_now_lots_product, rI cI a_o_rest 24 o9] 11 [1, 2, 4, 5, 6, 8, 9, 10] [0, 3, 7] rfl rfl rfl rfl (by decide +kernel) rfl (fun E _ _ _ _ h9 _ _ _ _ _ _ => (mx_no hf h9).elim) (fun r7v H locs h9 hP hD hS => ?_)
        have hf := mx_of hf h9
        clear h9
        refine W.widen (k := (c9 + 1)) (n := (s9 + 6)) (show (c9 + 0) + 1 ≤ (c9 + 1) by omega) (show (s9 + 0) + 6 ≤ (s9 + 6) by omega) ?_
        refine lv_iadd hx hb dL_isBooked_56 ?_
        refine lv_istore_n (lv' := [(2, .int (n2 + r7v)), (0, .ref a0), (1, .int n1), (3, .int n3)]) hx hb dL_isBooked_57 rfl hl (by decide) rfl (fun ls hl => ?_)
        refine lv_iinc (v := (n3 + 1)) (lv' := [(3, .int (n3 + 1)), (2, .int (n2 + r7v)), (0, .ref a0), (1, .int n1)]) hx hb dL_isBooked_58 hl (k := 3) rfl rfl (by decide) rfl (fun ls hl => ?_)
        refine lv_goto (tgt := 39) hx hb dL_isBooked_61 (by decide) ?_
        obtain rfl := Option.some.inj hf
        exact (hWW _ _ _ _ _).mp (ih (c9 + 1) (s9 + 6) (by omega) (by omega) _ _ _ _ _ _ hlp K _ _ ls hP hD hS (lv_sub hl [2, 3, 1, 0] rfl))
  refine (hWW _ _ _ _ _).mpr ?_
  refine lv_iconst (v := 0) hx hb dL_isBooked_0 (by decide) ?_
  refine lv_istore_n (lv' := [(1, .int 0), (0, .ref a0)]) hx hb dL_isBooked_1 rfl hl (by decide) rfl (fun ls hl => ?_)
  refine lv_iconst (v := 0) hx hb dL_isBooked_2 (by decide) ?_
  refine lv_istore_n (lv' := [(2, .int 0), (1, .int 0), (0, .ref a0)]) hx hb dL_isBooked_3 rfl hl (by decide) rfl (fun ls hl => ?_)
  obtain ⟨m5, hc4, hf⟩ := ob1 hf
  refine (hWW _ _ _ _ _).mp (hL4 fu _ _ _ _ hc4 (fun H locs ls hP hD hS hl => ?_) _ _ ls hP hD hS (lv_sub hl [2, 1, 0] rfl))
  · refine (hWW _ _ _ _ _).mpr ?_
    refine lv_iconst (v := 0) hx hb dL_isBooked_35 (by decide) ?_
    refine lv_istore_n (lv' := [(2, .int 0), (0, .ref a0), (1, .int m5)]) hx hb dL_isBooked_36 rfl hl (by decide) rfl (fun ls hl => ?_)
    refine lv_iconst (v := 0) hx hb dL_isBooked_37 (by decide) ?_
    refine lv_istore_n (lv' := [(3, .int 0), (2, .int 0), (0, .ref a0), (1, .int m5)]) hx hb dL_isBooked_38 rfl hl (by decide) rfl (fun ls hl => ?_)
    obtain ⟨m11, c12, hc10, hf⟩ := ob2 hf
    refine (hWW _ _ _ _ _).mp (hL39 10 0 0 (Nat.le_of_ble_eq_true rfl) (Nat.le_of_ble_eq_true rfl) _ _ _ _ _ _ hc10 (fun H locs ls hP hD hS hl => ?_) _ _ ls hP hD hS (lv_sub hl [2, 3, 1, 0] rfl))
    · refine (hWW _ _ _ _ _).mpr ?_
      refine lv_aload_n hx hb dL_isBooked_64 rfl (lv_at hl 0 rfl) ?_
      refine va_get (D := D) (ci := 8) (v := .ref a_o) (C := RL) (T := TL) (N := 8) hx hb hts (fun w h => mb (iL w h)) hown hK hP 0 rfl rfl 0 (by decide) (hts _ (mb tb_311)) (fun _ h9 => h9) rfl dL_isBooked_65 ?_
      refine lv_bipush (v := 6) hx hb dL_isBooked_68 (by decide) ?_
      obtain ⟨r13, hc14, hf⟩ := ob1 hf
      refine rx_calli (r9 := r13) (vx_runV (As := [.int 6]) (rest := []) ⟨hx, hb, hml, hown, hts⟩ (k_X7_book l hl0 D cI cJ cZ cS B0 H a_o a_o_now a_o_past a_o_plan a_o_picker a_o_rest a_o_packed a_o_now_items a_o_now_books a_o_now_terms a_o_now_shelves a_o_now_lots a_o_now_orders a_o_now_shelves_lot a_o_now_shelves_pieces a_o_now_shelves_mark a_o_now_shelves_byDistance c_o_acts c_o_nextSlot c_o_now_today c_o_now_products c_o_now_itemCount c_o_now_books c_o_now_shelves_lanes c_o_now_shelves_positions c_o_now_shelves_room c_o_now_shelves_gap c_o_now_shelves_places c_o_now_shelves_picked c_o_now_shelves_pieces 6 r13 hc14) (cwV 1 hts (gV tb_601 tb_602 tb_603 tb_1 tb_604) rfl rfl rfl (by decide +kernel) ⟨Nat.le_of_ble_eq_true rfl, Nat.le_of_ble_eq_true rfl⟩) ⟨rp_blind, va_recv hK hP (ci := 6) (q0 := 1) rfl rfl, rp_pre (hP.sub [1, 2, 3, 4, 6] rfl) hK (hBn _ _ hS) (hEn _ _ hS)⟩ rfl rfl hl.1 rfl (lv_room (Nat.le_of_ble_eq_true rfl)) dL_isBooked_70 ⟨Nat.le_of_ble_eq_true rfl, Nat.le_of_ble_eq_true rfl⟩) hS hA (fun E _ _ _ _ h9 _ _ _ _ _ _ => (mx_no hf h9).elim) (fun r13v h9 => ?_)
      have hf := mx_of hf h9
      clear h9
      refine lv_iload_n hx hb dL_isBooked_73 rfl (lv_at hl 1 rfl) ?_
      refine lv_icmp_ne (tgt := 143) hx hb dL_isBooked_74 (by decide) (fun h15 => ?_) (fun h15 => ?_)
      · have hf := ineg h15 hf
        refine lv_iconst (v := 0) hx hb dL_isBooked_143 (by decide) ?_
        cases hf
        refine W.widen (k := 11) (n := 66) (Nat.le_of_ble_eq_true rfl) (Nat.le_of_ble_eq_true rfl) ?_
        exact W.zret hx hb hr rfl (fun t ht hW => ⟨⟨_, (), rfl, rfl, (by show va_P D vwCl _ t.heap; rw [ht]; exact hP)⟩, hS.F ht⟩) hS.2.2 dL_isBooked_144
      · have hf := ipos h15 hf
        refine lv_iload_n hx hb dL_isBooked_77 rfl (lv_at hl 2 rfl) ?_
        refine lv_iload_n hx hb dL_isBooked_78 rfl (lv_at hl 1 rfl) ?_
        refine lv_icmp_ne (tgt := 143) hx hb dL_isBooked_79 (by decide) (fun h16 => ?_) (fun h16 => ?_)
        · have hf := ineg h16 hf
          refine lv_iconst (v := 0) hx hb dL_isBooked_143 (by decide) ?_
          cases hf
          refine W.widen (k := 11) (n := 66) (Nat.le_of_ble_eq_true rfl) (Nat.le_of_ble_eq_true rfl) ?_
          exact W.zret hx hb hr rfl (fun t ht hW => ⟨⟨_, (), rfl, rfl, (by show va_P D vwCl _ t.heap; rw [ht]; exact hP)⟩, hS.F ht⟩) hS.2.2 dL_isBooked_144
        · have hf := ipos h16 hf
          refine lv_aload_n hx hb dL_isBooked_82 rfl (lv_at hl 0 rfl) ?_
          refine va_get (D := D) (ci := 8) (v := .ref a_o) (C := RL) (T := TL) (N := 8) hx hb hts (fun w h => mb (iL w h)) hown hK hP 0 rfl rfl 0 (by decide) (hts _ (mb tb_311)) (fun _ h9 => h9) rfl dL_isBooked_83 ?_
          refine lv_iconst (v := 0) hx hb dL_isBooked_86 (by decide) ?_
          obtain ⟨r17, hc18, hf⟩ := ob1 hf
          refine rx_calli (r9 := r17) (vx_runV (As := [.int 0]) (rest := []) ⟨hx, hb, hml, hown, hts⟩ (k_X7_book l hl0 D cI cJ cZ cS B0 H a_o a_o_now a_o_past a_o_plan a_o_picker a_o_rest a_o_packed a_o_now_items a_o_now_books a_o_now_terms a_o_now_shelves a_o_now_lots a_o_now_orders a_o_now_shelves_lot a_o_now_shelves_pieces a_o_now_shelves_mark a_o_now_shelves_byDistance c_o_acts c_o_nextSlot c_o_now_today c_o_now_products c_o_now_itemCount c_o_now_books c_o_now_shelves_lanes c_o_now_shelves_positions c_o_now_shelves_room c_o_now_shelves_gap c_o_now_shelves_places c_o_now_shelves_picked c_o_now_shelves_pieces 0 r17 hc18) (cwV 1 hts (gV tb_601 tb_602 tb_603 tb_1 tb_604) rfl rfl rfl (by decide +kernel) ⟨Nat.le_of_ble_eq_true rfl, Nat.le_of_ble_eq_true rfl⟩) ⟨rp_blind, va_recv hK hP (ci := 6) (q0 := 1) rfl rfl, rp_pre (hP.sub [1, 2, 3, 4, 6] rfl) hK (hBn _ _ hS) (hEn _ _ hS)⟩ rfl rfl hl.1 rfl (lv_room (Nat.le_of_ble_eq_true rfl)) dL_isBooked_87 ⟨Nat.le_of_ble_eq_true rfl, Nat.le_of_ble_eq_true rfl⟩) hS hA (fun E _ _ _ _ h9 _ _ _ _ _ _ => (mx_no hf h9).elim) (fun r17v h9 => ?_)
          have hf := mx_of hf h9
          clear h9
          refine lv_aload_n hx hb dL_isBooked_90 rfl (lv_at hl 0 rfl) ?_
          refine va_get (D := D) (ci := 8) (v := .ref a_o) (C := RL) (T := TL) (N := 8) hx hb hts (fun w h => mb (iL w h)) hown hK hP 0 rfl rfl 0 (by decide) (hts _ (mb tb_311)) (fun _ h9 => h9) rfl dL_isBooked_91 ?_
          refine lv_iconst (v := 2) hx hb dL_isBooked_94 (by decide) ?_
          obtain ⟨r19, hc20, hf⟩ := ob1 hf
          refine rx_calli (r9 := r19) (vx_runV (As := [.int 2]) (rest := [.int r17v]) ⟨hx, hb, hml, hown, hts⟩ (k_X7_book l hl0 D cI cJ cZ cS B0 H a_o a_o_now a_o_past a_o_plan a_o_picker a_o_rest a_o_packed a_o_now_items a_o_now_books a_o_now_terms a_o_now_shelves a_o_now_lots a_o_now_orders a_o_now_shelves_lot a_o_now_shelves_pieces a_o_now_shelves_mark a_o_now_shelves_byDistance c_o_acts c_o_nextSlot c_o_now_today c_o_now_products c_o_now_itemCount c_o_now_books c_o_now_shelves_lanes c_o_now_shelves_positions c_o_now_shelves_room c_o_now_shelves_gap c_o_now_shelves_places c_o_now_shelves_picked c_o_now_shelves_pieces 2 r19 hc20) (cwV 1 hts (gV tb_601 tb_602 tb_603 tb_1 tb_604) rfl rfl rfl (by decide +kernel) ⟨Nat.le_of_ble_eq_true rfl, Nat.le_of_ble_eq_true rfl⟩) ⟨rp_blind, va_recv hK hP (ci := 6) (q0 := 1) rfl rfl, rp_pre (hP.sub [1, 2, 3, 4, 6] rfl) hK (hBn _ _ hS) (hEn _ _ hS)⟩ rfl rfl hl.1 rfl (lv_room (Nat.le_of_ble_eq_true rfl)) dL_isBooked_95 ⟨Nat.le_of_ble_eq_true rfl, Nat.le_of_ble_eq_true rfl⟩) hS hA (fun E _ _ _ _ h9 _ _ _ _ _ _ => (mx_no hf h9).elim) (fun r19v h9 => ?_)
          have hf := mx_of hf h9
          clear h9
          refine lv_iadd hx hb dL_isBooked_98 ?_
          refine lv_aload_n hx hb dL_isBooked_99 rfl (lv_at hl 0 rfl) ?_
          refine va_get (D := D) (ci := 8) (v := .ref a_o) (C := RL) (T := TL) (N := 8) hx hb hts (fun w h => mb (iL w h)) hown hK hP 0 rfl rfl 0 (by decide) (hts _ (mb tb_311)) (fun _ h9 => h9) rfl dL_isBooked_100 ?_
          refine lv_iconst (v := 5) hx hb dL_isBooked_103 (by decide) ?_
          obtain ⟨r21, hc22, hf⟩ := ob1 hf
          refine rx_calli (r9 := r21) (vx_runV (As := [.int 5]) (rest := [.int (r17v + r19v)]) ⟨hx, hb, hml, hown, hts⟩ (k_X7_book l hl0 D cI cJ cZ cS B0 H a_o a_o_now a_o_past a_o_plan a_o_picker a_o_rest a_o_packed a_o_now_items a_o_now_books a_o_now_terms a_o_now_shelves a_o_now_lots a_o_now_orders a_o_now_shelves_lot a_o_now_shelves_pieces a_o_now_shelves_mark a_o_now_shelves_byDistance c_o_acts c_o_nextSlot c_o_now_today c_o_now_products c_o_now_itemCount c_o_now_books c_o_now_shelves_lanes c_o_now_shelves_positions c_o_now_shelves_room c_o_now_shelves_gap c_o_now_shelves_places c_o_now_shelves_picked c_o_now_shelves_pieces 5 r21 hc22) (cwV 1 hts (gV tb_601 tb_602 tb_603 tb_1 tb_604) rfl rfl rfl (by decide +kernel) ⟨Nat.le_of_ble_eq_true rfl, Nat.le_of_ble_eq_true rfl⟩) ⟨rp_blind, va_recv hK hP (ci := 6) (q0 := 1) rfl rfl, rp_pre (hP.sub [1, 2, 3, 4, 6] rfl) hK (hBn _ _ hS) (hEn _ _ hS)⟩ rfl rfl hl.1 rfl (lv_room (Nat.le_of_ble_eq_true rfl)) dL_isBooked_104 ⟨Nat.le_of_ble_eq_true rfl, Nat.le_of_ble_eq_true rfl⟩) hS hA (fun E _ _ _ _ h9 _ _ _ _ _ _ => (mx_no hf h9).elim) (fun r21v h9 => ?_)
          have hf := mx_of hf h9
          clear h9
          refine lv_iadd hx hb dL_isBooked_107 ?_
          refine lv_aload_n hx hb dL_isBooked_108 rfl (lv_at hl 0 rfl) ?_
          refine va_get (D := D) (ci := 8) (v := .ref a_o) (C := RL) (T := TL) (N := 8) hx hb hts (fun w h => mb (iL w h)) hown hK hP 0 rfl rfl 0 (by decide) (hts _ (mb tb_311)) (fun _ h9 => h9) rfl dL_isBooked_109 ?_
          refine lv_iconst (v := 1) hx hb dL_isBooked_112 (by decide) ?_
          obtain ⟨r23, hc24, hf⟩ := ob1 hf
          refine rx_calli (r9 := r23) (vx_runV (As := [.int 1]) (rest := [.int ((r17v + r19v) + r21v)]) ⟨hx, hb, hml, hown, hts⟩ (k_X7_book l hl0 D cI cJ cZ cS B0 H a_o a_o_now a_o_past a_o_plan a_o_picker a_o_rest a_o_packed a_o_now_items a_o_now_books a_o_now_terms a_o_now_shelves a_o_now_lots a_o_now_orders a_o_now_shelves_lot a_o_now_shelves_pieces a_o_now_shelves_mark a_o_now_shelves_byDistance c_o_acts c_o_nextSlot c_o_now_today c_o_now_products c_o_now_itemCount c_o_now_books c_o_now_shelves_lanes c_o_now_shelves_positions c_o_now_shelves_room c_o_now_shelves_gap c_o_now_shelves_places c_o_now_shelves_picked c_o_now_shelves_pieces 1 r23 hc24) (cwV 1 hts (gV tb_601 tb_602 tb_603 tb_1 tb_604) rfl rfl rfl (by decide +kernel) ⟨Nat.le_of_ble_eq_true rfl, Nat.le_of_ble_eq_true rfl⟩) ⟨rp_blind, va_recv hK hP (ci := 6) (q0 := 1) rfl rfl, rp_pre (hP.sub [1, 2, 3, 4, 6] rfl) hK (hBn _ _ hS) (hEn _ _ hS)⟩ rfl rfl hl.1 rfl (lv_room (Nat.le_of_ble_eq_true rfl)) dL_isBooked_113 ⟨Nat.le_of_ble_eq_true rfl, Nat.le_of_ble_eq_true rfl⟩) hS hA (fun E _ _ _ _ h9 _ _ _ _ _ _ => (mx_no hf h9).elim) (fun r23v h9 => ?_)
          have hf := mx_of hf h9
          clear h9
          refine lv_isub hx hb dL_isBooked_116 ?_
          refine lv_aload_n hx hb dL_isBooked_117 rfl (lv_at hl 0 rfl) ?_
          refine va_get (D := D) (ci := 8) (v := .ref a_o) (C := RL) (T := TL) (N := 8) hx hb hts (fun w h => mb (iL w h)) hown hK hP 0 rfl rfl 0 (by decide) (hts _ (mb tb_311)) (fun _ h9 => h9) rfl dL_isBooked_118 ?_
          refine lv_iconst (v := 3) hx hb dL_isBooked_121 (by decide) ?_
          obtain ⟨r25, hc26, hf⟩ := ob1 hf
          refine rx_calli (r9 := r25) (vx_runV (As := [.int 3]) (rest := [.int (((r17v + r19v) + r21v) - r23v)]) ⟨hx, hb, hml, hown, hts⟩ (k_X7_book l hl0 D cI cJ cZ cS B0 H a_o a_o_now a_o_past a_o_plan a_o_picker a_o_rest a_o_packed a_o_now_items a_o_now_books a_o_now_terms a_o_now_shelves a_o_now_lots a_o_now_orders a_o_now_shelves_lot a_o_now_shelves_pieces a_o_now_shelves_mark a_o_now_shelves_byDistance c_o_acts c_o_nextSlot c_o_now_today c_o_now_products c_o_now_itemCount c_o_now_books c_o_now_shelves_lanes c_o_now_shelves_positions c_o_now_shelves_room c_o_now_shelves_gap c_o_now_shelves_places c_o_now_shelves_picked c_o_now_shelves_pieces 3 r25 hc26) (cwV 1 hts (gV tb_601 tb_602 tb_603 tb_1 tb_604) rfl rfl rfl (by decide +kernel) ⟨Nat.le_of_ble_eq_true rfl, Nat.le_of_ble_eq_true rfl⟩) ⟨rp_blind, va_recv hK hP (ci := 6) (q0 := 1) rfl rfl, rp_pre (hP.sub [1, 2, 3, 4, 6] rfl) hK (hBn _ _ hS) (hEn _ _ hS)⟩ rfl rfl hl.1 rfl (lv_room (Nat.le_of_ble_eq_true rfl)) dL_isBooked_122 ⟨Nat.le_of_ble_eq_true rfl, Nat.le_of_ble_eq_true rfl⟩) hS hA (fun E _ _ _ _ h9 _ _ _ _ _ _ => (mx_no hf h9).elim) (fun r25v h9 => ?_)
          have hf := mx_of hf h9
          clear h9
          refine lv_isub hx hb dL_isBooked_125 ?_
          refine lv_aload_n hx hb dL_isBooked_126 rfl (lv_at hl 0 rfl) ?_
          refine va_get (D := D) (ci := 8) (v := .ref a_o) (C := RL) (T := TL) (N := 8) hx hb hts (fun w h => mb (iL w h)) hown hK hP 0 rfl rfl 0 (by decide) (hts _ (mb tb_311)) (fun _ h9 => h9) rfl dL_isBooked_127 ?_
          refine lv_iconst (v := 4) hx hb dL_isBooked_130 (by decide) ?_
          obtain ⟨r27, hc28, hf⟩ := ob1 hf
          refine rx_calli (r9 := r27) (vx_runV (As := [.int 4]) (rest := [.int ((((r17v + r19v) + r21v) - r23v) - r25v)]) ⟨hx, hb, hml, hown, hts⟩ (k_X7_book l hl0 D cI cJ cZ cS B0 H a_o a_o_now a_o_past a_o_plan a_o_picker a_o_rest a_o_packed a_o_now_items a_o_now_books a_o_now_terms a_o_now_shelves a_o_now_lots a_o_now_orders a_o_now_shelves_lot a_o_now_shelves_pieces a_o_now_shelves_mark a_o_now_shelves_byDistance c_o_acts c_o_nextSlot c_o_now_today c_o_now_products c_o_now_itemCount c_o_now_books c_o_now_shelves_lanes c_o_now_shelves_positions c_o_now_shelves_room c_o_now_shelves_gap c_o_now_shelves_places c_o_now_shelves_picked c_o_now_shelves_pieces 4 r27 hc28) (cwV 1 hts (gV tb_601 tb_602 tb_603 tb_1 tb_604) rfl rfl rfl (by decide +kernel) ⟨Nat.le_of_ble_eq_true rfl, Nat.le_of_ble_eq_true rfl⟩) ⟨rp_blind, va_recv hK hP (ci := 6) (q0 := 1) rfl rfl, rp_pre (hP.sub [1, 2, 3, 4, 6] rfl) hK (hBn _ _ hS) (hEn _ _ hS)⟩ rfl rfl hl.1 rfl (lv_room (Nat.le_of_ble_eq_true rfl)) dL_isBooked_131 ⟨Nat.le_of_ble_eq_true rfl, Nat.le_of_ble_eq_true rfl⟩) hS hA (fun E _ _ _ _ h9 _ _ _ _ _ _ => (mx_no hf h9).elim) (fun r27v h9 => ?_)
          have hf := mx_of hf h9
          clear h9
          refine lv_isub hx hb dL_isBooked_134 ?_
          refine lv_iload_n hx hb dL_isBooked_135 rfl (lv_at hl 1 rfl) ?_
          refine lv_icmp_ne (tgt := 143) hx hb dL_isBooked_136 (by decide) (fun h29 => ?_) (fun h29 => ?_)
          · have hf := ineg h29 hf
            refine lv_iconst (v := 0) hx hb dL_isBooked_143 (by decide) ?_
            cases hf
            refine W.widen (k := 11) (n := 66) (Nat.le_of_ble_eq_true rfl) (Nat.le_of_ble_eq_true rfl) ?_
            exact W.zret hx hb hr rfl (fun t ht hW => ⟨⟨_, (), rfl, rfl, (by show va_P D vwCl _ t.heap; rw [ht]; exact hP)⟩, hS.F ht⟩) hS.2.2 dL_isBooked_144
          · have hf := ipos h29 hf
            refine lv_iconst (v := 1) hx hb dL_isBooked_139 (by decide) ?_
            refine lv_goto (tgt := 144) hx hb dL_isBooked_140 (by decide) ?_
            cases hf
            refine W.widen (k := 11) (n := 66) (Nat.le_of_ble_eq_true rfl) (Nat.le_of_ble_eq_true rfl) ?_
            exact W.zret hx hb hr rfl (fun t ht hW => ⟨⟨_, (), rfl, rfl, (by show va_P D vwCl _ t.heap; rw [ht]; exact hP)⟩, hS.F ht⟩) hS.2.2 dL_isBooked_144
def f_L_isKnown_L14_J52 (n1 : Int32) (n2 : Int32) (n3 : Int32) (c_lots : Int32) (c_orders : Int32) (c_o_now_shelves_places : Int32) (c_o_now_shelves_lot : Nat → Int32) (c_o_now_shelves_pieces : Nat → Int32) (c_o_now_lots_count : Int32) (c_o_now_lots_product : Nat → Int32) (c_o_now_lots_last : Nat → Int32) (c_o_now_lots_cost : Nat → Int32) (c_o_now_lots_state : Nat → Int32) (c_o_now_orders_count : Int32) (c_o_now_orders_customer : Nat → Int32) (c_o_now_orders_product : Nat → Int32) (c_o_now_orders_open : Nat → Int32) (c_o_now_orders_due : Nat → Int32) (c_o_now_orders_life : Nat → Int32) (c_o_now_orders_had : Nat → Int32) : Option ((Int32 × Int32) ⊕ Int32) :=
  some (.inl (n2, n3 + 1))
def f_L_isKnown_L14 (n1 : Int32) (c_lots : Int32) (c_orders : Int32) (c_o_now_shelves_places : Int32) (c_o_now_shelves_lot : Nat → Int32) (c_o_now_shelves_pieces : Nat → Int32) (c_o_now_lots_count : Int32) (c_o_now_lots_product : Nat → Int32) (c_o_now_lots_last : Nat → Int32) (c_o_now_lots_cost : Nat → Int32) (c_o_now_lots_state : Nat → Int32) (c_o_now_orders_count : Int32) (c_o_now_orders_customer : Nat → Int32) (c_o_now_orders_product : Nat → Int32) (c_o_now_orders_open : Nat → Int32) (c_o_now_orders_due : Nat → Int32) (c_o_now_orders_life : Nat → Int32) (c_o_now_orders_had : Nat → Int32) (n2 : Int32) (n3 : Int32) : Option ((Int32 × Int32) ⊕ Int32) :=
  (if c_orders ≤ n3 then some (.inr n2)
  else bnd1 (f_X7_lotsOf n3 c_o_now_lots_count c_o_now_orders_count c_o_now_orders_had) (fun r3 => mx r3 (fun _ => none) (fun r3v =>
  ((if ((r3v >>> (n1 &&& 31)) &&& 1) = 1 then bnd1 (f_X7_orderAt n3 0 c_o_now_orders_count c_o_now_orders_customer c_o_now_orders_product c_o_now_orders_open c_o_now_orders_due c_o_now_orders_life c_o_now_orders_had) (fun r6 => mx r6 (fun _ => none) (fun r6v =>
  (f_L_isKnown_L14_J52 n1 (n2 ||| (1 <<< (r6v &&& 31))) n3 c_lots c_orders c_o_now_shelves_places c_o_now_shelves_lot c_o_now_shelves_pieces c_o_now_lots_count c_o_now_lots_product c_o_now_lots_last c_o_now_lots_cost c_o_now_lots_state c_o_now_orders_count c_o_now_orders_customer c_o_now_orders_product c_o_now_orders_open c_o_now_orders_due c_o_now_orders_life c_o_now_orders_had)))
  else f_L_isKnown_L14_J52 n1 n2 n3 c_lots c_orders c_o_now_shelves_places c_o_now_shelves_lot c_o_now_shelves_pieces c_o_now_lots_count c_o_now_lots_product c_o_now_lots_last c_o_now_lots_cost c_o_now_lots_state c_o_now_orders_count c_o_now_orders_customer c_o_now_orders_product c_o_now_orders_open c_o_now_orders_due c_o_now_orders_life c_o_now_orders_had)))))
def f_L_isKnown_L2_J96 (n1 : Int32) (t0 : Int32) (t1 : Int32) (c_lots : Int32) (c_orders : Int32) (c_o_now_shelves_places : Int32) (c_o_now_shelves_lot : Nat → Int32) (c_o_now_shelves_pieces : Nat → Int32) (c_o_now_lots_count : Int32) (c_o_now_lots_product : Nat → Int32) (c_o_now_lots_last : Nat → Int32) (c_o_now_lots_cost : Nat → Int32) (c_o_now_lots_state : Nat → Int32) (c_o_now_orders_count : Int32) (c_o_now_orders_customer : Nat → Int32) (c_o_now_orders_product : Nat → Int32) (c_o_now_orders_open : Nat → Int32) (c_o_now_orders_due : Nat → Int32) (c_o_now_orders_life : Nat → Int32) (c_o_now_orders_had : Nat → Int32) : Option ((Int32) ⊕ ((Unit) ⊕ Unit)) :=
  (if t0 = t1 then some (.inl (n1 + 1))
  else some (.inr (.inl ())))
def f_L_isKnown_L2_J87 (n1 : Int32) (n2 : Int32) (t0 : Int32) (c_lots : Int32) (c_orders : Int32) (c_o_now_shelves_places : Int32) (c_o_now_shelves_lot : Nat → Int32) (c_o_now_shelves_pieces : Nat → Int32) (c_o_now_lots_count : Int32) (c_o_now_lots_product : Nat → Int32) (c_o_now_lots_last : Nat → Int32) (c_o_now_lots_cost : Nat → Int32) (c_o_now_lots_state : Nat → Int32) (c_o_now_orders_count : Int32) (c_o_now_orders_customer : Nat → Int32) (c_o_now_orders_product : Nat → Int32) (c_o_now_orders_open : Nat → Int32) (c_o_now_orders_due : Nat → Int32) (c_o_now_orders_life : Nat → Int32) (c_o_now_orders_had : Nat → Int32) : Option ((Int32) ⊕ ((Unit) ⊕ Unit)) :=
  (if n2 = 0 then f_L_isKnown_L2_J96 n1 t0 1 c_lots c_orders c_o_now_shelves_places c_o_now_shelves_lot c_o_now_shelves_pieces c_o_now_lots_count c_o_now_lots_product c_o_now_lots_last c_o_now_lots_cost c_o_now_lots_state c_o_now_orders_count c_o_now_orders_customer c_o_now_orders_product c_o_now_orders_open c_o_now_orders_due c_o_now_orders_life c_o_now_orders_had
  else f_L_isKnown_L2_J96 n1 t0 0 c_lots c_orders c_o_now_shelves_places c_o_now_shelves_lot c_o_now_shelves_pieces c_o_now_lots_count c_o_now_lots_product c_o_now_lots_last c_o_now_lots_cost c_o_now_lots_state c_o_now_orders_count c_o_now_orders_customer c_o_now_orders_product c_o_now_orders_open c_o_now_orders_due c_o_now_orders_life c_o_now_orders_had)
def f_L_isKnown_L2 (c_lots : Int32) (c_orders : Int32) (c_o_now_shelves_places : Int32) (c_o_now_shelves_lot : Nat → Int32) (c_o_now_shelves_pieces : Nat → Int32) (c_o_now_lots_count : Int32) (c_o_now_lots_product : Nat → Int32) (c_o_now_lots_last : Nat → Int32) (c_o_now_lots_cost : Nat → Int32) (c_o_now_lots_state : Nat → Int32) (c_o_now_orders_count : Int32) (c_o_now_orders_customer : Nat → Int32) (c_o_now_orders_product : Nat → Int32) (c_o_now_orders_open : Nat → Int32) (c_o_now_orders_due : Nat → Int32) (c_o_now_orders_life : Nat → Int32) (c_o_now_orders_had : Nat → Int32) (n1 : Int32) : Option ((Int32) ⊕ ((Unit) ⊕ Unit)) :=
  (if c_lots ≤ n1 then some (.inr (.inr ()))
  else (bnd1 (loop (fun z => f_L_isKnown_L14 n1 c_lots c_orders c_o_now_shelves_places c_o_now_shelves_lot c_o_now_shelves_pieces c_o_now_lots_count c_o_now_lots_product c_o_now_lots_last c_o_now_lots_cost c_o_now_lots_state c_o_now_orders_count c_o_now_orders_customer c_o_now_orders_product c_o_now_orders_open c_o_now_orders_due c_o_now_orders_life c_o_now_orders_had z.1 z.2) fu (0, 0)) fun m9 =>
  bnd1 (f_X7_customersOf n1 c_o_now_lots_count c_o_now_orders_count c_o_now_orders_customer c_o_now_orders_had) (fun r10 => mx r10 (fun _ => none) (fun r10v =>
  ((if r10v = m9 then bnd1 (f_X7_lotAt n1 5 c_o_now_shelves_places c_o_now_shelves_lot c_o_now_shelves_pieces c_o_now_lots_count c_o_now_lots_product c_o_now_lots_last c_o_now_lots_cost c_o_now_lots_state c_o_now_orders_count c_o_now_orders_had) (fun r13 => mx r13 (fun _ => none) (fun r13v =>
  ((if r13v = 0 then f_L_isKnown_L2_J87 n1 m9 1 c_lots c_orders c_o_now_shelves_places c_o_now_shelves_lot c_o_now_shelves_pieces c_o_now_lots_count c_o_now_lots_product c_o_now_lots_last c_o_now_lots_cost c_o_now_lots_state c_o_now_orders_count c_o_now_orders_customer c_o_now_orders_product c_o_now_orders_open c_o_now_orders_due c_o_now_orders_life c_o_now_orders_had
  else f_L_isKnown_L2_J87 n1 m9 0 c_lots c_orders c_o_now_shelves_places c_o_now_shelves_lot c_o_now_shelves_pieces c_o_now_lots_count c_o_now_lots_product c_o_now_lots_last c_o_now_lots_cost c_o_now_lots_state c_o_now_orders_count c_o_now_orders_customer c_o_now_orders_product c_o_now_orders_open c_o_now_orders_due c_o_now_orders_life c_o_now_orders_had))))
  else some (.inr (.inl ()))))))))
def f_L_isKnown (c_lots : Int32) (c_orders : Int32) (c_o_now_shelves_places : Int32) (c_o_now_shelves_lot : Nat → Int32) (c_o_now_shelves_pieces : Nat → Int32) (c_o_now_lots_count : Int32) (c_o_now_lots_product : Nat → Int32) (c_o_now_lots_last : Nat → Int32) (c_o_now_lots_cost : Nat → Int32) (c_o_now_lots_state : Nat → Int32) (c_o_now_orders_count : Int32) (c_o_now_orders_customer : Nat → Int32) (c_o_now_orders_product : Nat → Int32) (c_o_now_orders_open : Nat → Int32) (c_o_now_orders_due : Nat → Int32) (c_o_now_orders_life : Nat → Int32) (c_o_now_orders_had : Nat → Int32) : Option (Int32) :=
  (bnd1 (loop (fun z => f_L_isKnown_L2 c_lots c_orders c_o_now_shelves_places c_o_now_shelves_lot c_o_now_shelves_pieces c_o_now_lots_count c_o_now_lots_product c_o_now_lots_last c_o_now_lots_cost c_o_now_lots_state c_o_now_orders_count c_o_now_orders_customer c_o_now_orders_product c_o_now_orders_open c_o_now_orders_due c_o_now_orders_life c_o_now_orders_had z) fu 0) fun e19 =>
  (sel (fun _ => some 0) (fun _ => some 1)) e19)
set_option maxHeartbeats 4000000 in
set_option maxRecDepth 100000 in
theorem k_L_isKnown (l : Launch) (hl0 : l.stackTraces = false) (D : va_G) (cI cJ cZ cS : ClassId) (B0 : Nat) (sz : Nat) (a0 a_o a_d a_o_now a_o_past a_o_plan a_o_picker a_o_rest a_o_packed a_o_now_items a_o_now_books a_o_now_terms a_o_now_shelves a_o_now_lots a_o_now_orders a_o_now_shelves_lot a_o_now_shelves_pieces a_o_now_shelves_mark a_o_now_shelves_byDistance a_o_now_lots_product a_o_now_lots_last a_o_now_lots_cost a_o_now_lots_state a_o_now_lots_byLast a_o_now_orders_customer a_o_now_orders_product a_o_now_orders_open a_o_now_orders_due a_o_now_orders_life a_o_now_orders_byDue a_o_now_orders_had a_o_now_orders_stamps : Nat) (c_lanes : Int32) (c_positions : Int32) (c_gap : Int32) (c_products : Int32) (c_lots : Int32) (c_orders : Int32) (c_o_acts : Int32) (c_o_nextSlot : Int32) (c_o_now_today : Int32) (c_o_now_products : Int32) (c_o_now_itemCount : Int32) (c_o_now_shelves_lanes : Int32) (c_o_now_shelves_positions : Int32) (c_o_now_shelves_room : Int32) (c_o_now_shelves_gap : Int32) (c_o_now_shelves_places : Int32) (c_o_now_shelves_picked : Int64) (c_o_now_shelves_lot : Nat → Int32) (c_o_now_shelves_pieces : Nat → Int32) (c_o_now_lots_count : Int32) (c_o_now_lots_product : Nat → Int32) (c_o_now_lots_last : Nat → Int32) (c_o_now_lots_cost : Nat → Int32) (c_o_now_lots_state : Nat → Int32) (c_o_now_orders_count : Int32) (c_o_now_orders_gifts : Int32) (c_o_now_orders_customer : Nat → Int32) (c_o_now_orders_product : Nat → Int32) (c_o_now_orders_open : Nat → Int32) (c_o_now_orders_due : Nat → Int32) (c_o_now_orders_life : Nat → Int32) (c_o_now_orders_had : Nat → Int32) (r9 : Int32)  (hf : f_L_isKnown c_lots c_orders c_o_now_shelves_places c_o_now_shelves_lot c_o_now_shelves_pieces c_o_now_lots_count c_o_now_lots_product c_o_now_lots_last c_o_now_lots_cost c_o_now_lots_state c_o_now_orders_count c_o_now_orders_customer c_o_now_orders_product c_o_now_orders_open c_o_now_orders_due c_o_now_orders_life c_o_now_orders_had = some r9) : Met l yL_isKnown (wz yL_isKnown cL_isKnown 4 (some .boolean)) ({ frames := 8, cells := 1, slots := 6, locals := 134 }) (va_Pc [.ref a0] (wp D cI cJ cZ cS B0 [oL a0 a_o a_d c_lanes c_positions c_gap c_products c_lots c_orders, oX7 a_o a_o_now a_o_past c_o_acts c_o_nextSlot a_o_plan a_o_picker a_o_rest a_o_packed, oX6 a_o_now c_o_now_today c_o_now_products c_o_now_itemCount a_o_now_items a_o_now_books a_o_now_terms a_o_now_shelves a_o_now_lots a_o_now_orders, oX5 a_o_now_shelves c_o_now_shelves_lanes c_o_now_shelves_positions c_o_now_shelves_room c_o_now_shelves_gap c_o_now_shelves_places c_o_now_shelves_picked a_o_now_shelves_lot a_o_now_shelves_pieces a_o_now_shelves_mark a_o_now_shelves_byDistance, rI cI a_o_now_shelves_lot 48 c_o_now_shelves_lot, rI cI a_o_now_shelves_pieces 48 c_o_now_shelves_pieces, oX1 a_o_now_lots c_o_now_lots_count a_o_now_lots_product a_o_now_lots_last a_o_now_lots_cost a_o_now_lots_state a_o_now_lots_byLast, rI cI a_o_now_lots_product 24 c_o_now_lots_product, rI cI a_o_now_lots_last 24 c_o_now_lots_last, rI cI a_o_now_lots_cost 24 c_o_now_lots_cost, rI cI a_o_now_lots_state 24 c_o_now_lots_state, oX2 a_o_now_orders c_o_now_orders_count c_o_now_orders_gifts a_o_now_orders_customer a_o_now_orders_product a_o_now_orders_open a_o_now_orders_due a_o_now_orders_life a_o_now_orders_byDue a_o_now_orders_had a_o_now_orders_stamps, rI cI a_o_now_orders_customer 40 c_o_now_orders_customer, rI cI a_o_now_orders_product 40 c_o_now_orders_product, rI cI a_o_now_orders_open 40 c_o_now_orders_open, rI cI a_o_now_orders_due 40 c_o_now_orders_due, rI cI a_o_now_orders_life 40 c_o_now_orders_life, rI cI a_o_now_orders_had 960 c_o_now_orders_had] sz)) (va_Qi (fun (r2 : Int32) (_ : Unit) => r2 = r9) (fun _ t => va_P D vwCl [oL a0 a_o a_d c_lanes c_positions c_gap c_products c_lots c_orders, oX7 a_o a_o_now a_o_past c_o_acts c_o_nextSlot a_o_plan a_o_picker a_o_rest a_o_packed, oX6 a_o_now c_o_now_today c_o_now_products c_o_now_itemCount a_o_now_items a_o_now_books a_o_now_terms a_o_now_shelves a_o_now_lots a_o_now_orders, oX5 a_o_now_shelves c_o_now_shelves_lanes c_o_now_shelves_positions c_o_now_shelves_room c_o_now_shelves_gap c_o_now_shelves_places c_o_now_shelves_picked a_o_now_shelves_lot a_o_now_shelves_pieces a_o_now_shelves_mark a_o_now_shelves_byDistance, rI cI a_o_now_shelves_lot 48 c_o_now_shelves_lot, rI cI a_o_now_shelves_pieces 48 c_o_now_shelves_pieces, oX1 a_o_now_lots c_o_now_lots_count a_o_now_lots_product a_o_now_lots_last a_o_now_lots_cost a_o_now_lots_state a_o_now_lots_byLast, rI cI a_o_now_lots_product 24 c_o_now_lots_product, rI cI a_o_now_lots_last 24 c_o_now_lots_last, rI cI a_o_now_lots_cost 24 c_o_now_lots_cost, rI cI a_o_now_lots_state 24 c_o_now_lots_state, oX2 a_o_now_orders c_o_now_orders_count c_o_now_orders_gifts a_o_now_orders_customer a_o_now_orders_product a_o_now_orders_open a_o_now_orders_due a_o_now_orders_life a_o_now_orders_byDue a_o_now_orders_had a_o_now_orders_stamps, rI cI a_o_now_orders_customer 40 c_o_now_orders_customer, rI cI a_o_now_orders_product 40 c_o_now_orders_product, rI cI a_o_now_orders_open 40 c_o_now_orders_open, rI cI a_o_now_orders_due 40 c_o_now_orders_due, rI cI a_o_now_orders_life 40 c_o_now_orders_life, rI cI a_o_now_orders_had 960 c_o_now_orders_had] t.heap) (va_A [oL a0 a_o a_d c_lanes c_positions c_gap c_products c_lots c_orders, oX7 a_o a_o_now a_o_past c_o_acts c_o_nextSlot a_o_plan a_o_picker a_o_rest a_o_packed, oX6 a_o_now c_o_now_today c_o_now_products c_o_now_itemCount a_o_now_items a_o_now_books a_o_now_terms a_o_now_shelves a_o_now_lots a_o_now_orders, oX5 a_o_now_shelves c_o_now_shelves_lanes c_o_now_shelves_positions c_o_now_shelves_room c_o_now_shelves_gap c_o_now_shelves_places c_o_now_shelves_picked a_o_now_shelves_lot a_o_now_shelves_pieces a_o_now_shelves_mark a_o_now_shelves_byDistance, rI cI a_o_now_shelves_lot 48 c_o_now_shelves_lot, rI cI a_o_now_shelves_pieces 48 c_o_now_shelves_pieces, oX1 a_o_now_lots c_o_now_lots_count a_o_now_lots_product a_o_now_lots_last a_o_now_lots_cost a_o_now_lots_state a_o_now_lots_byLast, rI cI a_o_now_lots_product 24 c_o_now_lots_product, rI cI a_o_now_lots_last 24 c_o_now_lots_last, rI cI a_o_now_lots_cost 24 c_o_now_lots_cost, rI cI a_o_now_lots_state 24 c_o_now_lots_state, oX2 a_o_now_orders c_o_now_orders_count c_o_now_orders_gifts a_o_now_orders_customer a_o_now_orders_product a_o_now_orders_open a_o_now_orders_due a_o_now_orders_life a_o_now_orders_byDue a_o_now_orders_had a_o_now_orders_stamps, rI cI a_o_now_orders_customer 40 c_o_now_orders_customer, rI cI a_o_now_orders_product 40 c_o_now_orders_product, rI cI a_o_now_orders_open 40 c_o_now_orders_open, rI cI a_o_now_orders_due 40 c_o_now_orders_due, rI cI a_o_now_orders_life 40 c_o_now_orders_life, rI cI a_o_now_orders_had 960 c_o_now_orders_had] sz)) 1 6 (va_A [oL a0 a_o a_d c_lanes c_positions c_gap c_products c_lots c_orders, oX7 a_o a_o_now a_o_past c_o_acts c_o_nextSlot a_o_plan a_o_picker a_o_rest a_o_packed, oX6 a_o_now c_o_now_today c_o_now_products c_o_now_itemCount a_o_now_items a_o_now_books a_o_now_terms a_o_now_shelves a_o_now_lots a_o_now_orders, oX5 a_o_now_shelves c_o_now_shelves_lanes c_o_now_shelves_positions c_o_now_shelves_room c_o_now_shelves_gap c_o_now_shelves_places c_o_now_shelves_picked a_o_now_shelves_lot a_o_now_shelves_pieces a_o_now_shelves_mark a_o_now_shelves_byDistance, rI cI a_o_now_shelves_lot 48 c_o_now_shelves_lot, rI cI a_o_now_shelves_pieces 48 c_o_now_shelves_pieces, oX1 a_o_now_lots c_o_now_lots_count a_o_now_lots_product a_o_now_lots_last a_o_now_lots_cost a_o_now_lots_state a_o_now_lots_byLast, rI cI a_o_now_lots_product 24 c_o_now_lots_product, rI cI a_o_now_lots_last 24 c_o_now_lots_last, rI cI a_o_now_lots_cost 24 c_o_now_lots_cost, rI cI a_o_now_lots_state 24 c_o_now_lots_state, oX2 a_o_now_orders c_o_now_orders_count c_o_now_orders_gifts a_o_now_orders_customer a_o_now_orders_product a_o_now_orders_open a_o_now_orders_due a_o_now_orders_life a_o_now_orders_byDue a_o_now_orders_had a_o_now_orders_stamps, rI cI a_o_now_orders_customer 40 c_o_now_orders_customer, rI cI a_o_now_orders_product 40 c_o_now_orders_product, rI cI a_o_now_orders_open 40 c_o_now_orders_open, rI cI a_o_now_orders_due 40 c_o_now_orders_due, rI cI a_o_now_orders_life 40 c_o_now_orders_life, rI cI a_o_now_orders_had 960 c_o_now_orders_had] sz) := by
  refine Met.ofW (cc := cL_isKnown) (maxL := 4) (ret := (some .boolean)) (by decide) rfl ?_
  intro p e s m args below meth c s₁ B hml hv
  obtain ⟨rfl, hsz, hP, hK, hD0, hB0, hE⟩ := hv
  subst hsz
  have hx := B.exec
  have hb := B.bytes
  have hr := B.returns
  have hts := atoms_spec (ws := (wz yL_isKnown cL_isKnown 4 (some .boolean))) B.pre
  have hown : s.vm.findClass RL = some m.cls := findClass_of_methodNamed B.named
  have hlocks := B.notSynchronized
  have hD := hD0.self (sz := s.heap.size)
  have hAB : ∀ q : Nat, va_A [oL a0 a_o a_d c_lanes c_positions c_gap c_products c_lots c_orders, oX7 a_o a_o_now a_o_past c_o_acts c_o_nextSlot a_o_plan a_o_picker a_o_rest a_o_packed, oX6 a_o_now c_o_now_today c_o_now_products c_o_now_itemCount a_o_now_items a_o_now_books a_o_now_terms a_o_now_shelves a_o_now_lots a_o_now_orders, oX5 a_o_now_shelves c_o_now_shelves_lanes c_o_now_shelves_positions c_o_now_shelves_room c_o_now_shelves_gap c_o_now_shelves_places c_o_now_shelves_picked a_o_now_shelves_lot a_o_now_shelves_pieces a_o_now_shelves_mark a_o_now_shelves_byDistance, rI cI a_o_now_shelves_lot 48 c_o_now_shelves_lot, rI cI a_o_now_shelves_pieces 48 c_o_now_shelves_pieces, oX1 a_o_now_lots c_o_now_lots_count a_o_now_lots_product a_o_now_lots_last a_o_now_lots_cost a_o_now_lots_state a_o_now_lots_byLast, rI cI a_o_now_lots_product 24 c_o_now_lots_product, rI cI a_o_now_lots_last 24 c_o_now_lots_last, rI cI a_o_now_lots_cost 24 c_o_now_lots_cost, rI cI a_o_now_lots_state 24 c_o_now_lots_state, oX2 a_o_now_orders c_o_now_orders_count c_o_now_orders_gifts a_o_now_orders_customer a_o_now_orders_product a_o_now_orders_open a_o_now_orders_due a_o_now_orders_life a_o_now_orders_byDue a_o_now_orders_had a_o_now_orders_stamps, rI cI a_o_now_orders_customer 40 c_o_now_orders_customer, rI cI a_o_now_orders_product 40 c_o_now_orders_product, rI cI a_o_now_orders_open 40 c_o_now_orders_open, rI cI a_o_now_orders_due 40 c_o_now_orders_due, rI cI a_o_now_orders_life 40 c_o_now_orders_life, rI cI a_o_now_orders_had 960 c_o_now_orders_had] s.heap.size q → B0 ≤ q := va_A_B hD0 hB0
  generalize hAe : va_A [oL a0 a_o a_d c_lanes c_positions c_gap c_products c_lots c_orders, oX7 a_o a_o_now a_o_past c_o_acts c_o_nextSlot a_o_plan a_o_picker a_o_rest a_o_packed, oX6 a_o_now c_o_now_today c_o_now_products c_o_now_itemCount a_o_now_items a_o_now_books a_o_now_terms a_o_now_shelves a_o_now_lots a_o_now_orders, oX5 a_o_now_shelves c_o_now_shelves_lanes c_o_now_shelves_positions c_o_now_shelves_room c_o_now_shelves_gap c_o_now_shelves_places c_o_now_shelves_picked a_o_now_shelves_lot a_o_now_shelves_pieces a_o_now_shelves_mark a_o_now_shelves_byDistance, rI cI a_o_now_shelves_lot 48 c_o_now_shelves_lot, rI cI a_o_now_shelves_pieces 48 c_o_now_shelves_pieces, oX1 a_o_now_lots c_o_now_lots_count a_o_now_lots_product a_o_now_lots_last a_o_now_lots_cost a_o_now_lots_state a_o_now_lots_byLast, rI cI a_o_now_lots_product 24 c_o_now_lots_product, rI cI a_o_now_lots_last 24 c_o_now_lots_last, rI cI a_o_now_lots_cost 24 c_o_now_lots_cost, rI cI a_o_now_lots_state 24 c_o_now_lots_state, oX2 a_o_now_orders c_o_now_orders_count c_o_now_orders_gifts a_o_now_orders_customer a_o_now_orders_product a_o_now_orders_open a_o_now_orders_due a_o_now_orders_life a_o_now_orders_byDue a_o_now_orders_had a_o_now_orders_stamps, rI cI a_o_now_orders_customer 40 c_o_now_orders_customer, rI cI a_o_now_orders_product 40 c_o_now_orders_product, rI cI a_o_now_orders_open 40 c_o_now_orders_open, rI cI a_o_now_orders_due 40 c_o_now_orders_due, rI cI a_o_now_orders_life 40 c_o_now_orders_life, rI cI a_o_now_orders_had 960 c_o_now_orders_had] s.heap.size = A at hD hAB ⊢
  have hA : ∀ q : Nat, s.heap.size ≤ q → A q := fun q h => by rw [← hAe]; exact Or.inr h
  have hFa := hA
  have hS : va_S A s.heap s.heap [] := va_S.rf
  have hBn := fun (H : Heap) (locs : List Loc) (h : va_S A s.heap H locs) => Nat.le_trans hB0 h.1
  have hEn := fun (H : Heap) (locs : List Loc) (h : va_S A s.heap H locs) => gE_now hE h hAB
  have hl := lv_entry ([.ref a0]) (n := 4) (Nat.le_of_ble_eq_true rfl)
  rw [lg_entry_eq]
  generalize (lg_sl ([.ref a0]) ++ List.replicate (4 - (lg_sl ([.ref a0])).length) Slot.unset).toArray = ls at hl ⊢
  have hl : lv_has ls 4 [(0, .ref a0)] := hl
  obtain ⟨H, hHe⟩ : ∃ H : Heap, H = s.heap := ⟨_, rfl⟩
  have hP : va_P D vwCl [oL a0 a_o a_d c_lanes c_positions c_gap c_products c_lots c_orders, oX7 a_o a_o_now a_o_past c_o_acts c_o_nextSlot a_o_plan a_o_picker a_o_rest a_o_packed, oX6 a_o_now c_o_now_today c_o_now_products c_o_now_itemCount a_o_now_items a_o_now_books a_o_now_terms a_o_now_shelves a_o_now_lots a_o_now_orders, oX5 a_o_now_shelves c_o_now_shelves_lanes c_o_now_shelves_positions c_o_now_shelves_room c_o_now_shelves_gap c_o_now_shelves_places c_o_now_shelves_picked a_o_now_shelves_lot a_o_now_shelves_pieces a_o_now_shelves_mark a_o_now_shelves_byDistance, rI cI a_o_now_shelves_lot 48 c_o_now_shelves_lot, rI cI a_o_now_shelves_pieces 48 c_o_now_shelves_pieces, oX1 a_o_now_lots c_o_now_lots_count a_o_now_lots_product a_o_now_lots_last a_o_now_lots_cost a_o_now_lots_state a_o_now_lots_byLast, rI cI a_o_now_lots_product 24 c_o_now_lots_product, rI cI a_o_now_lots_last 24 c_o_now_lots_last, rI cI a_o_now_lots_cost 24 c_o_now_lots_cost, rI cI a_o_now_lots_state 24 c_o_now_lots_state, oX2 a_o_now_orders c_o_now_orders_count c_o_now_orders_gifts a_o_now_orders_customer a_o_now_orders_product a_o_now_orders_open a_o_now_orders_due a_o_now_orders_life a_o_now_orders_byDue a_o_now_orders_had a_o_now_orders_stamps, rI cI a_o_now_orders_customer 40 c_o_now_orders_customer, rI cI a_o_now_orders_product 40 c_o_now_orders_product, rI cI a_o_now_orders_open 40 c_o_now_orders_open, rI cI a_o_now_orders_due 40 c_o_now_orders_due, rI cI a_o_now_orders_life 40 c_o_now_orders_life, rI cI a_o_now_orders_had 960 c_o_now_orders_had] H := by rw [hHe]; exact hP
  have hS : va_S A s.heap H [] := by rw [hHe]; exact hS
  refine W_heq hHe ?_
  unfold f_L_isKnown at hf
  refine gen_goW (fun WW hWW => ?_)
  have hL2 : ∀ (n : Nat) (n1 : Int32) (e9 : ((Unit) ⊕ Unit)), loop (fun z => f_L_isKnown_L2 c_lots c_orders c_o_now_shelves_places c_o_now_shelves_lot c_o_now_shelves_pieces c_o_now_lots_count c_o_now_lots_product c_o_now_lots_last c_o_now_lots_cost c_o_now_lots_state c_o_now_orders_count c_o_now_orders_customer c_o_now_orders_product c_o_now_orders_open c_o_now_orders_due c_o_now_orders_life c_o_now_orders_had z) n n1 = some e9 → (e9 = (.inl ()) → ∀ (H : Heap) (locs : List Loc) (ls : Array Slot), va_P D vwCl [oL a0 a_o a_d c_lanes c_positions c_gap c_products c_lots c_orders, oX7 a_o a_o_now a_o_past c_o_acts c_o_nextSlot a_o_plan a_o_picker a_o_rest a_o_packed, oX6 a_o_now c_o_now_today c_o_now_products c_o_now_itemCount a_o_now_items a_o_now_books a_o_now_terms a_o_now_shelves a_o_now_lots a_o_now_orders, oX5 a_o_now_shelves c_o_now_shelves_lanes c_o_now_shelves_positions c_o_now_shelves_room c_o_now_shelves_gap c_o_now_shelves_places c_o_now_shelves_picked a_o_now_shelves_lot a_o_now_shelves_pieces a_o_now_shelves_mark a_o_now_shelves_byDistance, rI cI a_o_now_shelves_lot 48 c_o_now_shelves_lot, rI cI a_o_now_shelves_pieces 48 c_o_now_shelves_pieces, oX1 a_o_now_lots c_o_now_lots_count a_o_now_lots_product a_o_now_lots_last a_o_now_lots_cost a_o_now_lots_state a_o_now_lots_byLast, rI cI a_o_now_lots_product 24 c_o_now_lots_product, rI cI a_o_now_lots_last 24 c_o_now_lots_last, rI cI a_o_now_lots_cost 24 c_o_now_lots_cost, rI cI a_o_now_lots_state 24 c_o_now_lots_state, oX2 a_o_now_orders c_o_now_orders_count c_o_now_orders_gifts a_o_now_orders_customer a_o_now_orders_product a_o_now_orders_open a_o_now_orders_due a_o_now_orders_life a_o_now_orders_byDue a_o_now_orders_had a_o_now_orders_stamps, rI cI a_o_now_orders_customer 40 c_o_now_orders_customer, rI cI a_o_now_orders_product 40 c_o_now_orders_product, rI cI a_o_now_orders_open 40 c_o_now_orders_open, rI cI a_o_now_orders_due 40 c_o_now_orders_due, rI cI a_o_now_orders_life 40 c_o_now_orders_life, rI cI a_o_now_orders_had 960 c_o_now_orders_had] H → va_D A [oL a0 a_o a_d c_lanes c_positions c_gap c_products c_lots c_orders, oX7 a_o a_o_now a_o_past c_o_acts c_o_nextSlot a_o_plan a_o_picker a_o_rest a_o_packed, oX6 a_o_now c_o_now_today c_o_now_products c_o_now_itemCount a_o_now_items a_o_now_books a_o_now_terms a_o_now_shelves a_o_now_lots a_o_now_orders, oX5 a_o_now_shelves c_o_now_shelves_lanes c_o_now_shelves_positions c_o_now_shelves_room c_o_now_shelves_gap c_o_now_shelves_places c_o_now_shelves_picked a_o_now_shelves_lot a_o_now_shelves_pieces a_o_now_shelves_mark a_o_now_shelves_byDistance, rI cI a_o_now_shelves_lot 48 c_o_now_shelves_lot, rI cI a_o_now_shelves_pieces 48 c_o_now_shelves_pieces, oX1 a_o_now_lots c_o_now_lots_count a_o_now_lots_product a_o_now_lots_last a_o_now_lots_cost a_o_now_lots_state a_o_now_lots_byLast, rI cI a_o_now_lots_product 24 c_o_now_lots_product, rI cI a_o_now_lots_last 24 c_o_now_lots_last, rI cI a_o_now_lots_cost 24 c_o_now_lots_cost, rI cI a_o_now_lots_state 24 c_o_now_lots_state, oX2 a_o_now_orders c_o_now_orders_count c_o_now_orders_gifts a_o_now_orders_customer a_o_now_orders_product a_o_now_orders_open a_o_now_orders_due a_o_now_orders_life a_o_now_orders_byDue a_o_now_orders_had a_o_now_orders_stamps, rI cI a_o_now_orders_customer 40 c_o_now_orders_customer, rI cI a_o_now_orders_product 40 c_o_now_orders_product, rI cI a_o_now_orders_open 40 c_o_now_orders_open, rI cI a_o_now_orders_due 40 c_o_now_orders_due, rI cI a_o_now_orders_life 40 c_o_now_orders_life, rI cI a_o_now_orders_had 960 c_o_now_orders_had] → va_S A s.heap H locs → lv_has ls 4 [] → WW H locs 0 0 (F0 m 99 ls [])) → (e9 = (.inr ()) → ∀ (H : Heap) (locs : List Loc) (ls : Array Slot), va_P D vwCl [oL a0 a_o a_d c_lanes c_positions c_gap c_products c_lots c_orders, oX7 a_o a_o_now a_o_past c_o_acts c_o_nextSlot a_o_plan a_o_picker a_o_rest a_o_packed, oX6 a_o_now c_o_now_today c_o_now_products c_o_now_itemCount a_o_now_items a_o_now_books a_o_now_terms a_o_now_shelves a_o_now_lots a_o_now_orders, oX5 a_o_now_shelves c_o_now_shelves_lanes c_o_now_shelves_positions c_o_now_shelves_room c_o_now_shelves_gap c_o_now_shelves_places c_o_now_shelves_picked a_o_now_shelves_lot a_o_now_shelves_pieces a_o_now_shelves_mark a_o_now_shelves_byDistance, rI cI a_o_now_shelves_lot 48 c_o_now_shelves_lot, rI cI a_o_now_shelves_pieces 48 c_o_now_shelves_pieces, oX1 a_o_now_lots c_o_now_lots_count a_o_now_lots_product a_o_now_lots_last a_o_now_lots_cost a_o_now_lots_state a_o_now_lots_byLast, rI cI a_o_now_lots_product 24 c_o_now_lots_product, rI cI a_o_now_lots_last 24 c_o_now_lots_last, rI cI a_o_now_lots_cost 24 c_o_now_lots_cost, rI cI a_o_now_lots_state 24 c_o_now_lots_state, oX2 a_o_now_orders c_o_now_orders_count c_o_now_orders_gifts a_o_now_orders_customer a_o_now_orders_product a_o_now_orders_open a_o_now_orders_due a_o_now_orders_life a_o_now_orders_byDue a_o_now_orders_had a_o_now_orders_stamps, rI cI a_o_now_orders_customer 40 c_o_now_orders_customer, rI cI a_o_now_orders_product 40 c_o_now_orders_product, rI cI a_o_now_orders_open 40 c_o_now_orders_open, rI cI a_o_now_orders_due 40 c_o_now_orders_due, rI cI a_o_now_orders_life 40 c_o_now_orders_life, rI cI a_o_now_orders_had 960 c_o_now_orders_had] H → va_D A [oL a0 a_o a_d c_lanes c_positions c_gap c_products c_lots c_orders, oX7 a_o a_o_now a_o_past c_o_acts c_o_nextSlot a_o_plan a_o_picker a_o_rest a_o_packed, oX6 a_o_now c_o_now_today c_o_now_products c_o_now_itemCount a_o_now_items a_o_now_books a_o_now_terms a_o_now_shelves a_o_now_lots a_o_now_orders, oX5 a_o_now_shelves c_o_now_shelves_lanes c_o_now_shelves_positions c_o_now_shelves_room c_o_now_shelves_gap c_o_now_shelves_places c_o_now_shelves_picked a_o_now_shelves_lot a_o_now_shelves_pieces a_o_now_shelves_mark a_o_now_shelves_byDistance, rI cI a_o_now_shelves_lot 48 c_o_now_shelves_lot, rI cI a_o_now_shelves_pieces 48 c_o_now_shelves_pieces, oX1 a_o_now_lots c_o_now_lots_count a_o_now_lots_product a_o_now_lots_last a_o_now_lots_cost a_o_now_lots_state a_o_now_lots_byLast, rI cI a_o_now_lots_product 24 c_o_now_lots_product, rI cI a_o_now_lots_last 24 c_o_now_lots_last, rI cI a_o_now_lots_cost 24 c_o_now_lots_cost, rI cI a_o_now_lots_state 24 c_o_now_lots_state, oX2 a_o_now_orders c_o_now_orders_count c_o_now_orders_gifts a_o_now_orders_customer a_o_now_orders_product a_o_now_orders_open a_o_now_orders_due a_o_now_orders_life a_o_now_orders_byDue a_o_now_orders_had a_o_now_orders_stamps, rI cI a_o_now_orders_customer 40 c_o_now_orders_customer, rI cI a_o_now_orders_product 40 c_o_now_orders_product, rI cI a_o_now_orders_open 40 c_o_now_orders_open, rI cI a_o_now_orders_due 40 c_o_now_orders_due, rI cI a_o_now_orders_life 40 c_o_now_orders_life, rI cI a_o_now_orders_had 960 c_o_now_orders_had] → va_S A s.heap H locs → lv_has ls 4 [] → WW H locs 0 0 (F0 m 107 ls [])) → ∀ (H : Heap) (locs : List Loc) (ls : Array Slot), va_P D vwCl [oL a0 a_o a_d c_lanes c_positions c_gap c_products c_lots c_orders, oX7 a_o a_o_now a_o_past c_o_acts c_o_nextSlot a_o_plan a_o_picker a_o_rest a_o_packed, oX6 a_o_now c_o_now_today c_o_now_products c_o_now_itemCount a_o_now_items a_o_now_books a_o_now_terms a_o_now_shelves a_o_now_lots a_o_now_orders, oX5 a_o_now_shelves c_o_now_shelves_lanes c_o_now_shelves_positions c_o_now_shelves_room c_o_now_shelves_gap c_o_now_shelves_places c_o_now_shelves_picked a_o_now_shelves_lot a_o_now_shelves_pieces a_o_now_shelves_mark a_o_now_shelves_byDistance, rI cI a_o_now_shelves_lot 48 c_o_now_shelves_lot, rI cI a_o_now_shelves_pieces 48 c_o_now_shelves_pieces, oX1 a_o_now_lots c_o_now_lots_count a_o_now_lots_product a_o_now_lots_last a_o_now_lots_cost a_o_now_lots_state a_o_now_lots_byLast, rI cI a_o_now_lots_product 24 c_o_now_lots_product, rI cI a_o_now_lots_last 24 c_o_now_lots_last, rI cI a_o_now_lots_cost 24 c_o_now_lots_cost, rI cI a_o_now_lots_state 24 c_o_now_lots_state, oX2 a_o_now_orders c_o_now_orders_count c_o_now_orders_gifts a_o_now_orders_customer a_o_now_orders_product a_o_now_orders_open a_o_now_orders_due a_o_now_orders_life a_o_now_orders_byDue a_o_now_orders_had a_o_now_orders_stamps, rI cI a_o_now_orders_customer 40 c_o_now_orders_customer, rI cI a_o_now_orders_product 40 c_o_now_orders_product, rI cI a_o_now_orders_open 40 c_o_now_orders_open, rI cI a_o_now_orders_due 40 c_o_now_orders_due, rI cI a_o_now_orders_life 40 c_o_now_orders_life, rI cI a_o_now_orders_had 960 c_o_now_orders_had] H → va_D A [oL a0 a_o a_d c_lanes c_positions c_gap c_products c_lots c_orders, oX7 a_o a_o_now a_o_past c_o_acts c_o_nextSlot a_o_plan a_o_picker a_o_rest a_o_packed, oX6 a_o_now c_o_now_today c_o_now_products c_o_now_itemCount a_o_now_items a_o_now_books a_o_now_terms a_o_now_shelves a_o_now_lots a_o_now_orders, oX5 a_o_now_shelves c_o_now_shelves_lanes c_o_now_shelves_positions c_o_now_shelves_room c_o_now_shelves_gap c_o_now_shelves_places c_o_now_shelves_picked a_o_now_shelves_lot a_o_now_shelves_pieces a_o_now_shelves_mark a_o_now_shelves_byDistance, rI cI a_o_now_shelves_lot 48 c_o_now_shelves_lot, rI cI a_o_now_shelves_pieces 48 c_o_now_shelves_pieces, oX1 a_o_now_lots c_o_now_lots_count a_o_now_lots_product a_o_now_lots_last a_o_now_lots_cost a_o_now_lots_state a_o_now_lots_byLast, rI cI a_o_now_lots_product 24 c_o_now_lots_product, rI cI a_o_now_lots_last 24 c_o_now_lots_last, rI cI a_o_now_lots_cost 24 c_o_now_lots_cost, rI cI a_o_now_lots_state 24 c_o_now_lots_state, oX2 a_o_now_orders c_o_now_orders_count c_o_now_orders_gifts a_o_now_orders_customer a_o_now_orders_product a_o_now_orders_open a_o_now_orders_due a_o_now_orders_life a_o_now_orders_byDue a_o_now_orders_had a_o_now_orders_stamps, rI cI a_o_now_orders_customer 40 c_o_now_orders_customer, rI cI a_o_now_orders_product 40 c_o_now_orders_product, rI cI a_o_now_orders_open 40 c_o_now_orders_open, rI cI a_o_now_orders_due 40 c_o_now_orders_due, rI cI a_o_now_orders_life 40 c_o_now_orders_life, rI cI a_o_now_orders_had 960 c_o_now_orders_had] → va_S A s.heap H locs → lv_has ls 4 [(0, .ref a0), (1, .int n1)] → WW H locs 0 0 (F0 m 2 ls []) := by
    intro n
    induction n with
    | zero =>
      intro n1 e9 hlp
      exact absurd hlp (by simp [loop])
    | succ n ih =>
      intro n1 e9 hlp K0 K1 H locs ls hP hD hS hl
      obtain ⟨x9, hf, hlp⟩ := loop_s hlp
      have hf : f_L_isKnown_L2 c_lots c_orders c_o_now_shelves_places c_o_now_shelves_lot c_o_now_shelves_pieces c_o_now_lots_count c_o_now_lots_product c_o_now_lots_last c_o_now_lots_cost c_o_now_lots_state c_o_now_orders_count c_o_now_orders_customer c_o_now_orders_product c_o_now_orders_open c_o_now_orders_due c_o_now_orders_life c_o_now_orders_had n1 = some x9 := hf
      unfold f_L_isKnown_L2 at hf
      have hL14 : ∀ (n : Nat) (n1 : Int32) (n2 : Int32) (n3 : Int32) (e2 : Int32), loop (fun z => f_L_isKnown_L14 n1 c_lots c_orders c_o_now_shelves_places c_o_now_shelves_lot c_o_now_shelves_pieces c_o_now_lots_count c_o_now_lots_product c_o_now_lots_last c_o_now_lots_cost c_o_now_lots_state c_o_now_orders_count c_o_now_orders_customer c_o_now_orders_product c_o_now_orders_open c_o_now_orders_due c_o_now_orders_life c_o_now_orders_had z.1 z.2) n (n2, n3) = some e2 → (∀ (H : Heap) (locs : List Loc) (ls : Array Slot), va_P D vwCl [oL a0 a_o a_d c_lanes c_positions c_gap c_products c_lots c_orders, oX7 a_o a_o_now a_o_past c_o_acts c_o_nextSlot a_o_plan a_o_picker a_o_rest a_o_packed, oX6 a_o_now c_o_now_today c_o_now_products c_o_now_itemCount a_o_now_items a_o_now_books a_o_now_terms a_o_now_shelves a_o_now_lots a_o_now_orders, oX5 a_o_now_shelves c_o_now_shelves_lanes c_o_now_shelves_positions c_o_now_shelves_room c_o_now_shelves_gap c_o_now_shelves_places c_o_now_shelves_picked a_o_now_shelves_lot a_o_now_shelves_pieces a_o_now_shelves_mark a_o_now_shelves_byDistance, rI cI a_o_now_shelves_lot 48 c_o_now_shelves_lot, rI cI a_o_now_shelves_pieces 48 c_o_now_shelves_pieces, oX1 a_o_now_lots c_o_now_lots_count a_o_now_lots_product a_o_now_lots_last a_o_now_lots_cost a_o_now_lots_state a_o_now_lots_byLast, rI cI a_o_now_lots_product 24 c_o_now_lots_product, rI cI a_o_now_lots_last 24 c_o_now_lots_last, rI cI a_o_now_lots_cost 24 c_o_now_lots_cost, rI cI a_o_now_lots_state 24 c_o_now_lots_state, oX2 a_o_now_orders c_o_now_orders_count c_o_now_orders_gifts a_o_now_orders_customer a_o_now_orders_product a_o_now_orders_open a_o_now_orders_due a_o_now_orders_life a_o_now_orders_byDue a_o_now_orders_had a_o_now_orders_stamps, rI cI a_o_now_orders_customer 40 c_o_now_orders_customer, rI cI a_o_now_orders_product 40 c_o_now_orders_product, rI cI a_o_now_orders_open 40 c_o_now_orders_open, rI cI a_o_now_orders_due 40 c_o_now_orders_due, rI cI a_o_now_orders_life 40 c_o_now_orders_life, rI cI a_o_now_orders_had 960 c_o_now_orders_had] H → va_D A [oL a0 a_o a_d c_lanes c_positions c_gap c_products c_lots c_orders, oX7 a_o a_o_now a_o_past c_o_acts c_o_nextSlot a_o_plan a_o_picker a_o_rest a_o_packed, oX6 a_o_now c_o_now_today c_o_now_products c_o_now_itemCount a_o_now_items a_o_now_books a_o_now_terms a_o_now_shelves a_o_now_lots a_o_now_orders, oX5 a_o_now_shelves c_o_now_shelves_lanes c_o_now_shelves_positions c_o_now_shelves_room c_o_now_shelves_gap c_o_now_shelves_places c_o_now_shelves_picked a_o_now_shelves_lot a_o_now_shelves_pieces a_o_now_shelves_mark a_o_now_shelves_byDistance, rI cI a_o_now_shelves_lot 48 c_o_now_shelves_lot, rI cI a_o_now_shelves_pieces 48 c_o_now_shelves_pieces, oX1 a_o_now_lots c_o_now_lots_count a_o_now_lots_product a_o_now_lots_last a_o_now_lots_cost a_o_now_lots_state a_o_now_lots_byLast, rI cI a_o_now_lots_product 24 c_o_now_lots_product, rI cI a_o_now_lots_last 24 c_o_now_lots_last, rI cI a_o_now_lots_cost 24 c_o_now_lots_cost, rI cI a_o_now_lots_state 24 c_o_now_lots_state, oX2 a_o_now_orders c_o_now_orders_count c_o_now_orders_gifts a_o_now_orders_customer a_o_now_orders_product a_o_now_orders_open a_o_now_orders_due a_o_now_orders_life a_o_now_orders_byDue a_o_now_orders_had a_o_now_orders_stamps, rI cI a_o_now_orders_customer 40 c_o_now_orders_customer, rI cI a_o_now_orders_product 40 c_o_now_orders_product, rI cI a_o_now_orders_open 40 c_o_now_orders_open, rI cI a_o_now_orders_due 40 c_o_now_orders_due, rI cI a_o_now_orders_life 40 c_o_now_orders_life, rI cI a_o_now_orders_had 960 c_o_now_orders_had] → va_S A s.heap H locs → lv_has ls 4 [(0, .ref a0), (1, .int n1), (2, .int e2)] → WW H locs 0 0 (F0 m 58 ls [])) → ∀ (H : Heap) (locs : List Loc) (ls : Array Slot), va_P D vwCl [oL a0 a_o a_d c_lanes c_positions c_gap c_products c_lots c_orders, oX7 a_o a_o_now a_o_past c_o_acts c_o_nextSlot a_o_plan a_o_picker a_o_rest a_o_packed, oX6 a_o_now c_o_now_today c_o_now_products c_o_now_itemCount a_o_now_items a_o_now_books a_o_now_terms a_o_now_shelves a_o_now_lots a_o_now_orders, oX5 a_o_now_shelves c_o_now_shelves_lanes c_o_now_shelves_positions c_o_now_shelves_room c_o_now_shelves_gap c_o_now_shelves_places c_o_now_shelves_picked a_o_now_shelves_lot a_o_now_shelves_pieces a_o_now_shelves_mark a_o_now_shelves_byDistance, rI cI a_o_now_shelves_lot 48 c_o_now_shelves_lot, rI cI a_o_now_shelves_pieces 48 c_o_now_shelves_pieces, oX1 a_o_now_lots c_o_now_lots_count a_o_now_lots_product a_o_now_lots_last a_o_now_lots_cost a_o_now_lots_state a_o_now_lots_byLast, rI cI a_o_now_lots_product 24 c_o_now_lots_product, rI cI a_o_now_lots_last 24 c_o_now_lots_last, rI cI a_o_now_lots_cost 24 c_o_now_lots_cost, rI cI a_o_now_lots_state 24 c_o_now_lots_state, oX2 a_o_now_orders c_o_now_orders_count c_o_now_orders_gifts a_o_now_orders_customer a_o_now_orders_product a_o_now_orders_open a_o_now_orders_due a_o_now_orders_life a_o_now_orders_byDue a_o_now_orders_had a_o_now_orders_stamps, rI cI a_o_now_orders_customer 40 c_o_now_orders_customer, rI cI a_o_now_orders_product 40 c_o_now_orders_product, rI cI a_o_now_orders_open 40 c_o_now_orders_open, rI cI a_o_now_orders_due 40 c_o_now_orders_due, rI cI a_o_now_orders_life 40 c_o_now_orders_life, rI cI a_o_now_orders_had 960 c_o_now_orders_had] H → va_D A [oL a0 a_o a_d c_lanes c_positions c_gap c_products c_lots c_orders, oX7 a_o a_o_now a_o_past c_o_acts c_o_nextSlot a_o_plan a_o_picker a_o_rest a_o_packed, oX6 a_o_now c_o_now_today c_o_now_products c_o_now_itemCount a_o_now_items a_o_now_books a_o_now_terms a_o_now_shelves a_o_now_lots a_o_now_orders, oX5 a_o_now_shelves c_o_now_shelves_lanes c_o_now_shelves_positions c_o_now_shelves_room c_o_now_shelves_gap c_o_now_shelves_places c_o_now_shelves_picked a_o_now_shelves_lot a_o_now_shelves_pieces a_o_now_shelves_mark a_o_now_shelves_byDistance, rI cI a_o_now_shelves_lot 48 c_o_now_shelves_lot, rI cI a_o_now_shelves_pieces 48 c_o_now_shelves_pieces, oX1 a_o_now_lots c_o_now_lots_count a_o_now_lots_product a_o_now_lots_last a_o_now_lots_cost a_o_now_lots_state a_o_now_lots_byLast, rI cI a_o_now_lots_product 24 c_o_now_lots_product, rI cI a_o_now_lots_last 24 c_o_now_lots_last, rI cI a_o_now_lots_cost 24 c_o_now_lots_cost, rI cI a_o_now_lots_state 24 c_o_now_lots_state, oX2 a_o_now_orders c_o_now_orders_count c_o_now_orders_gifts a_o_now_orders_customer a_o_now_orders_product a_o_now_orders_open a_o_now_orders_due a_o_now_orders_life a_o_now_orders_byDue a_o_now_orders_had a_o_now_orders_stamps, rI cI a_o_now_orders_customer 40 c_o_now_orders_customer, rI cI a_o_now_orders_product 40 c_o_now_orders_product, rI cI a_o_now_orders_open 40 c_o_now_orders_open, rI cI a_o_now_orders_due 40 c_o_now_orders_due, rI cI a_o_now_orders_life 40 c_o_now_orders_life, rI cI a_o_now_orders_had 960 c_o_now_orders_had] → va_S A s.heap H locs → lv_has ls 4 [(0, .ref a0), (1, .int n1), (2, .int n2), (3, .int n3)] → WW H locs 0 0 (F0 m 14 ls []) := by
        intro n
        induction n with
        | zero =>
          intro n1 n2 n3 e2 hlp
          exact absurd hlp (by simp [loop])
        | succ n ih =>
          intro n1 n2 n3 e2 hlp K H locs ls hP hD hS hl
          obtain ⟨x9, hf, hlp⟩ := loop_s hlp
          have hf : f_L_isKnown_L14 n1 c_lots c_orders c_o_now_shelves_places c_o_now_shelves_lot c_o_now_shelves_pieces c_o_now_lots_count c_o_now_lots_product c_o_now_lots_last c_o_now_lots_cost c_o_now_lots_state c_o_now_orders_count c_o_now_orders_customer c_o_now_orders_product c_o_now_orders_open c_o_now_orders_due c_o_now_orders_life c_o_now_orders_had n2 n3 = some x9 := hf
          unfold f_L_isKnown_L14 at hf
          have hJ52 : ∀ (n2 : Int32) (n3 : Int32), f_L_isKnown_L14_J52 n1 n2 n3 c_lots c_orders c_o_now_shelves_places c_o_now_shelves_lot c_o_now_shelves_pieces c_o_now_lots_count c_o_now_lots_product c_o_now_lots_last c_o_now_lots_cost c_o_now_lots_state c_o_now_orders_count c_o_now_orders_customer c_o_now_orders_product c_o_now_orders_open c_o_now_orders_due c_o_now_orders_life c_o_now_orders_had = some x9 → ∀ (H : Heap) (locs : List Loc) (ls : Array Slot), va_P D vwCl [oL a0 a_o a_d c_lanes c_positions c_gap c_products c_lots c_orders, oX7 a_o a_o_now a_o_past c_o_acts c_o_nextSlot a_o_plan a_o_picker a_o_rest a_o_packed, oX6 a_o_now c_o_now_today c_o_now_products c_o_now_itemCount a_o_now_items a_o_now_books a_o_now_terms a_o_now_shelves a_o_now_lots a_o_now_orders, oX5 a_o_now_shelves c_o_now_shelves_lanes c_o_now_shelves_positions c_o_now_shelves_room c_o_now_shelves_gap c_o_now_shelves_places c_o_now_shelves_picked a_o_now_shelves_lot a_o_now_shelves_pieces a_o_now_shelves_mark a_o_now_shelves_byDistance, rI cI a_o_now_shelves_lot 48 c_o_now_shelves_lot, rI cI a_o_now_shelves_pieces 48 c_o_now_shelves_pieces, oX1 a_o_now_lots c_o_now_lots_count a_o_now_lots_product a_o_now_lots_last a_o_now_lots_cost a_o_now_lots_state a_o_now_lots_byLast, rI cI a_o_now_lots_product 24 c_o_now_lots_product, rI cI a_o_now_lots_last 24 c_o_now_lots_last, rI cI a_o_now_lots_cost 24 c_o_now_lots_cost, rI cI a_o_now_lots_state 24 c_o_now_lots_state, oX2 a_o_now_orders c_o_now_orders_count c_o_now_orders_gifts a_o_now_orders_customer a_o_now_orders_product a_o_now_orders_open a_o_now_orders_due a_o_now_orders_life a_o_now_orders_byDue a_o_now_orders_had a_o_now_orders_stamps, rI cI a_o_now_orders_customer 40 c_o_now_orders_customer, rI cI a_o_now_orders_product 40 c_o_now_orders_product, rI cI a_o_now_orders_open 40 c_o_now_orders_open, rI cI a_o_now_orders_due 40 c_o_now_orders_due, rI cI a_o_now_orders_life 40 c_o_now_orders_life, rI cI a_o_now_orders_had 960 c_o_now_orders_had] H → va_D A [oL a0 a_o a_d c_lanes c_positions c_gap c_products c_lots c_orders, oX7 a_o a_o_now a_o_past c_o_acts c_o_nextSlot a_o_plan a_o_picker a_o_rest a_o_packed, oX6 a_o_now c_o_now_today c_o_now_products c_o_now_itemCount a_o_now_items a_o_now_books a_o_now_terms a_o_now_shelves a_o_now_lots a_o_now_orders, oX5 a_o_now_shelves c_o_now_shelves_lanes c_o_now_shelves_positions c_o_now_shelves_room c_o_now_shelves_gap c_o_now_shelves_places c_o_now_shelves_picked a_o_now_shelves_lot a_o_now_shelves_pieces a_o_now_shelves_mark a_o_now_shelves_byDistance, rI cI a_o_now_shelves_lot 48 c_o_now_shelves_lot, rI cI a_o_now_shelves_pieces 48 c_o_now_shelves_pieces, oX1 a_o_now_lots c_o_now_lots_count a_o_now_lots_product a_o_now_lots_last a_o_now_lots_cost a_o_now_lots_state a_o_now_lots_byLast, rI cI a_o_now_lots_product 24 c_o_now_lots_product, rI cI a_o_now_lots_last 24 c_o_now_lots_last, rI cI a_o_now_lots_cost 24 c_o_now_lots_cost, rI cI a_o_now_lots_state 24 c_o_now_lots_state, oX2 a_o_now_orders c_o_now_orders_count c_o_now_orders_gifts a_o_now_orders_customer a_o_now_orders_product a_o_now_orders_open a_o_now_orders_due a_o_now_orders_life a_o_now_orders_byDue a_o_now_orders_had a_o_now_orders_stamps, rI cI a_o_now_orders_customer 40 c_o_now_orders_customer, rI cI a_o_now_orders_product 40 c_o_now_orders_product, rI cI a_o_now_orders_open 40 c_o_now_orders_open, rI cI a_o_now_orders_due 40 c_o_now_orders_due, rI cI a_o_now_orders_life 40 c_o_now_orders_life, rI cI a_o_now_orders_had 960 c_o_now_orders_had] → va_S A s.heap H locs → lv_has ls 4 [(0, .ref a0), (1, .int n1), (2, .int n2), (3, .int n3)] → WW H locs 0 0 (F0 m 52 ls []) := by
            intro n2 n3 hf H locs ls hP hD hS hl
            unfold f_L_isKnown_L14_J52 at hf
            refine (hWW _ _ _ _ _).mpr ?_
            refine lv_iinc (v := (n3 + 1)) (lv' := [(3, .int (n3 + 1)), (0, .ref a0), (1, .int n1), (2, .int n2)]) hx hb dL_isKnown_52 hl (k := 3) rfl rfl (by decide) rfl (fun ls hl => ?_)
            refine lv_goto (tgt := 14) hx hb dL_isKnown_55 (by decide) ?_
            obtain rfl := Option.some.inj hf
            exact (hWW _ _ _ _ _).mp (ih _ _ _ _ hlp K _ _ ls hP hD hS (lv_sub hl [1, 2, 3, 0] rfl))
          refine (hWW _ _ _ _ _).mpr ?_
          refine lv_iload_n hx hb dL_isKnown_14 rfl (lv_at hl 3 rfl) ?_
          refine lv_aload_n hx hb dL_isKnown_15 rfl (lv_at hl 0 rfl) ?_
          refine va_get (D := D) (ci := 8) (v := .int c_orders) (C := RL) (T := TL) (N := 8) hx hb hts (fun w h => mb (iL w h)) hown hK hP 0 rfl rfl 7 (by decide) (hts _ (mb tb_318)) (fun _ h9 => h9) rfl dL_isKnown_16 ?_
          refine lv_icmp_ge (tgt := 58) hx hb dL_isKnown_19 (by decide) (fun h2 => ?_) (fun h2 => ?_)
          · have hf := ipos h2 hf
            obtain rfl := Option.some.inj hf
            cases lpx_r hlp
            exact (hWW _ _ _ _ _).mp (K _ _ ls hP hD hS (lv_sub hl [0, 1, 2] rfl))
          · have hf := ineg h2 hf
            refine lv_aload_n hx hb dL_isKnown_22 rfl (lv_at hl 0 rfl) ?_
            refine va_get (D := D) (ci := 8) (v := .ref a_o) (C := RL) (T := TL) (N := 8) hx hb hts (fun w h => mb (iL w h)) hown hK hP 0 rfl rfl 0 (by decide) (hts _ (mb tb_311)) (fun _ h9 => h9) rfl dL_isKnown_23 ?_
            refine lv_iload_n hx hb dL_isKnown_26 rfl (lv_at hl 3 rfl) ?_
            obtain ⟨r3, hc4, hf⟩ := ob1 hf
            refine rx_calli (r9 := r3) (vx_runV (As := [.int n3]) (rest := []) ⟨hx, hb, hml, hown, hts⟩ (k_X7_lotsOf l hl0 D cI cJ cZ cS B0 H a_o a_o_now a_o_past a_o_plan a_o_picker a_o_rest a_o_packed a_o_now_items a_o_now_books a_o_now_terms a_o_now_shelves a_o_now_lots a_o_now_orders a_o_now_lots_product a_o_now_lots_last a_o_now_lots_cost a_o_now_lots_state a_o_now_lots_byLast a_o_now_orders_customer a_o_now_orders_product a_o_now_orders_open a_o_now_orders_due a_o_now_orders_life a_o_now_orders_byDue a_o_now_orders_had a_o_now_orders_stamps c_o_acts c_o_nextSlot c_o_now_today c_o_now_products c_o_now_itemCount c_o_now_lots_count c_o_now_orders_count c_o_now_orders_gifts c_o_now_orders_had n3 r3 hc4) (cwV 1 hts (gV tb_711 tb_712 tb_713 tb_1 tb_714) rfl rfl rfl (by decide +kernel) ⟨Nat.le_of_ble_eq_true rfl, Nat.le_of_ble_eq_true rfl⟩) ⟨rp_blind, va_recv hK hP (ci := 6) (q0 := 1) rfl rfl, rp_pre (hP.sub [1, 2, 6, 11, 17] rfl) hK (hBn _ _ hS) (hEn _ _ hS)⟩ rfl rfl hl.1 rfl (lv_room (Nat.le_of_ble_eq_true rfl)) dL_isKnown_27 ⟨Nat.le_of_ble_eq_true rfl, Nat.le_of_ble_eq_true rfl⟩) hS hA (fun E _ _ _ _ h9 _ _ _ _ _ _ => (mx_no hf h9).elim) (fun r3v h9 => ?_)
            have hf := mx_of hf h9
            clear h9
            refine lv_iload_n hx hb dL_isKnown_30 rfl (lv_at hl 1 rfl) ?_
            refine lv_ishr hx hb dL_isKnown_31 ?_
            refine lv_iconst (v := 1) hx hb dL_isKnown_32 (by decide) ?_
            refine lv_iand hx hb dL_isKnown_33 ?_
            refine lv_iconst (v := 1) hx hb dL_isKnown_34 (by decide) ?_
            refine lv_icmp_ne (tgt := 52) hx hb dL_isKnown_35 (by decide) (fun h5 => ?_) (fun h5 => ?_)
            · have hf := ineg h5 hf
              exact (hWW _ _ _ _ _).mp (hJ52 _ _ hf _ _ ls hP hD hS (lv_sub hl [0, 1, 2, 3] rfl))
            · have hf := ipos h5 hf
              refine lv_iload_n hx hb dL_isKnown_38 rfl (lv_at hl 2 rfl) ?_
              refine lv_iconst (v := 1) hx hb dL_isKnown_39 (by decide) ?_
              refine lv_aload_n hx hb dL_isKnown_40 rfl (lv_at hl 0 rfl) ?_
              refine va_get (D := D) (ci := 8) (v := .ref a_o) (C := RL) (T := TL) (N := 8) hx hb hts (fun w h => mb (iL w h)) hown hK hP 0 rfl rfl 0 (by decide) (hts _ (mb tb_311)) (fun _ h9 => h9) rfl dL_isKnown_41 ?_
              refine lv_iload_n hx hb dL_isKnown_44 rfl (lv_at hl 3 rfl) ?_
              refine lv_iconst (v := 0) hx hb dL_isKnown_45 (by decide) ?_
              obtain ⟨r6, hc7, hf⟩ := ob1 hf
              refine rx_calli (r9 := r6) (vx_runV (As := [.int n3, .int 0]) (rest := [.int 1, .int n2]) ⟨hx, hb, hml, hown, hts⟩ (k_X7_orderAt l hl0 D cI cJ cZ cS B0 H a_o a_o_now a_o_past a_o_plan a_o_picker a_o_rest a_o_packed a_o_now_items a_o_now_books a_o_now_terms a_o_now_shelves a_o_now_lots a_o_now_orders a_o_now_orders_customer a_o_now_orders_product a_o_now_orders_open a_o_now_orders_due a_o_now_orders_life a_o_now_orders_byDue a_o_now_orders_had a_o_now_orders_stamps c_o_acts c_o_nextSlot c_o_now_today c_o_now_products c_o_now_itemCount c_o_now_orders_count c_o_now_orders_gifts c_o_now_orders_customer c_o_now_orders_product c_o_now_orders_open c_o_now_orders_due c_o_now_orders_life c_o_now_orders_had n3 0 r6 hc7) (cwV 2 hts (gV tb_654 tb_655 tb_656 tb_1 tb_657) rfl rfl rfl (by decide +kernel) ⟨Nat.le_of_ble_eq_true rfl, Nat.le_of_ble_eq_true rfl⟩) ⟨rp_blind, va_recv hK hP (ci := 6) (q0 := 1) rfl rfl, rp_pre (hP.sub [1, 2, 11, 12, 13, 14, 15, 16, 17] rfl) hK (hBn _ _ hS) (hEn _ _ hS)⟩ rfl rfl hl.1 rfl (lv_room (Nat.le_of_ble_eq_true rfl)) dL_isKnown_46 ⟨Nat.le_of_ble_eq_true rfl, Nat.le_of_ble_eq_true rfl⟩) hS hA (fun E _ _ _ _ h9 _ _ _ _ _ _ => (mx_no hf h9).elim) (fun r6v h9 => ?_)
              have hf := mx_of hf h9
              clear h9
              refine lv_ishl hx hb dL_isKnown_49 ?_
              refine lv_ior hx hb dL_isKnown_50 ?_
              refine lv_istore_n (lv' := [(2, .int (n2 ||| (1 <<< (r6v &&& 31)))), (0, .ref a0), (1, .int n1), (3, .int n3)]) hx hb dL_isKnown_51 rfl hl (by decide) rfl (fun ls hl => ?_)
              exact (hWW _ _ _ _ _).mp (hJ52 _ _ hf _ _ ls hP hD hS (lv_sub hl [1, 2, 0, 3] rfl))
      have hJ96 : ∀ (n1 : Int32) (t0 : Int32) (t1 : Int32), f_L_isKnown_L2_J96 n1 t0 t1 c_lots c_orders c_o_now_shelves_places c_o_now_shelves_lot c_o_now_shelves_pieces c_o_now_lots_count c_o_now_lots_product c_o_now_lots_last c_o_now_lots_cost c_o_now_lots_state c_o_now_orders_count c_o_now_orders_customer c_o_now_orders_product c_o_now_orders_open c_o_now_orders_due c_o_now_orders_life c_o_now_orders_had = some x9 → ∀ (H : Heap) (locs : List Loc) (ls : Array Slot), va_P D vwCl [oL a0 a_o a_d c_lanes c_positions c_gap c_products c_lots c_orders, oX7 a_o a_o_now a_o_past c_o_acts c_o_nextSlot a_o_plan a_o_picker a_o_rest a_o_packed, oX6 a_o_now c_o_now_today c_o_now_products c_o_now_itemCount a_o_now_items a_o_now_books a_o_now_terms a_o_now_shelves a_o_now_lots a_o_now_orders, oX5 a_o_now_shelves c_o_now_shelves_lanes c_o_now_shelves_positions c_o_now_shelves_room c_o_now_shelves_gap c_o_now_shelves_places c_o_now_shelves_picked a_o_now_shelves_lot a_o_now_shelves_pieces a_o_now_shelves_mark a_o_now_shelves_byDistance, rI cI a_o_now_shelves_lot 48 c_o_now_shelves_lot, rI cI a_o_now_shelves_pieces 48 c_o_now_shelves_pieces, oX1 a_o_now_lots c_o_now_lots_count a_o_now_lots_product a_o_now_lots_last a_o_now_lots_cost a_o_now_lots_state a_o_now_lots_byLast, rI cI a_o_now_lots_product 24 c_o_now_lots_product, rI cI a_o_now_lots_last 24 c_o_now_lots_last, rI cI a_o_now_lots_cost 24 c_o_now_lots_cost, rI cI a_o_now_lots_state 24 c_o_now_lots_state, oX2 a_o_now_orders c_o_now_orders_count c_o_now_orders_gifts a_o_now_orders_customer a_o_now_orders_product a_o_now_orders_open a_o_now_orders_due a_o_now_orders_life a_o_now_orders_byDue a_o_now_orders_had a_o_now_orders_stamps, rI cI a_o_now_orders_customer 40 c_o_now_orders_customer, rI cI a_o_now_orders_product 40 c_o_now_orders_product, rI cI a_o_now_orders_open 40 c_o_now_orders_open, rI cI a_o_now_orders_due 40 c_o_now_orders_due, rI cI a_o_now_orders_life 40 c_o_now_orders_life, rI cI a_o_now_orders_had 960 c_o_now_orders_had] H → va_D A [oL a0 a_o a_d c_lanes c_positions c_gap c_products c_lots c_orders, oX7 a_o a_o_now a_o_past c_o_acts c_o_nextSlot a_o_plan a_o_picker a_o_rest a_o_packed, oX6 a_o_now c_o_now_today c_o_now_products c_o_now_itemCount a_o_now_items a_o_now_books a_o_now_terms a_o_now_shelves a_o_now_lots a_o_now_orders, oX5 a_o_now_shelves c_o_now_shelves_lanes c_o_now_shelves_positions c_o_now_shelves_room c_o_now_shelves_gap c_o_now_shelves_places c_o_now_shelves_picked a_o_now_shelves_lot a_o_now_shelves_pieces a_o_now_shelves_mark a_o_now_shelves_byDistance, rI cI a_o_now_shelves_lot 48 c_o_now_shelves_lot, rI cI a_o_now_shelves_pieces 48 c_o_now_shelves_pieces, oX1 a_o_now_lots c_o_now_lots_count a_o_now_lots_product a_o_now_lots_last a_o_now_lots_cost a_o_now_lots_state a_o_now_lots_byLast, rI cI a_o_now_lots_product 24 c_o_now_lots_product, rI cI a_o_now_lots_last 24 c_o_now_lots_last, rI cI a_o_now_lots_cost 24 c_o_now_lots_cost, rI cI a_o_now_lots_state 24 c_o_now_lots_state, oX2 a_o_now_orders c_o_now_orders_count c_o_now_orders_gifts a_o_now_orders_customer a_o_now_orders_product a_o_now_orders_open a_o_now_orders_due a_o_now_orders_life a_o_now_orders_byDue a_o_now_orders_had a_o_now_orders_stamps, rI cI a_o_now_orders_customer 40 c_o_now_orders_customer, rI cI a_o_now_orders_product 40 c_o_now_orders_product, rI cI a_o_now_orders_open 40 c_o_now_orders_open, rI cI a_o_now_orders_due 40 c_o_now_orders_due, rI cI a_o_now_orders_life 40 c_o_now_orders_life, rI cI a_o_now_orders_had 960 c_o_now_orders_had] → va_S A s.heap H locs → lv_has ls 4 [(0, .ref a0), (1, .int n1)] → WW H locs 0 0 (F0 m 96 ls [.int t1, .int t0]) := by
        intro n1 t0 t1 hf H locs ls hP hD hS hl
        unfold f_L_isKnown_L2_J96 at hf
        refine (hWW _ _ _ _ _).mpr ?_
        refine lv_icmp_eq (tgt := 101) hx hb dL_isKnown_96 (by decide) (fun h17 => ?_) (fun h17 => ?_)
        · have hf := ipos h17 hf
          refine lv_iinc (v := (n1 + 1)) (lv' := [(1, .int (n1 + 1)), (0, .ref a0)]) hx hb dL_isKnown_101 hl (k := 1) rfl rfl (by decide) rfl (fun ls hl => ?_)
          refine lv_goto (tgt := 2) hx hb dL_isKnown_104 (by decide) ?_
          obtain rfl := Option.some.inj hf
          exact (hWW _ _ _ _ _).mp (ih  _ _ hlp K0 K1 _ _ ls hP hD hS (lv_sub hl [1, 0] rfl))
        · have hf := ineg h17 hf
          obtain rfl := Option.some.inj hf
          cases lpx_r hlp
          exact (hWW _ _ _ _ _).mp (K0 rfl _ _ ls hP hD hS (lv_sub hl [] rfl))
      have hJ87 : ∀ (n1 : Int32) (n2 : Int32) (t0 : Int32), f_L_isKnown_L2_J87 n1 n2 t0 c_lots c_orders c_o_now_shelves_places c_o_now_shelves_lot c_o_now_shelves_pieces c_o_now_lots_count c_o_now_lots_product c_o_now_lots_last c_o_now_lots_cost c_o_now_lots_state c_o_now_orders_count c_o_now_orders_customer c_o_now_orders_product c_o_now_orders_open c_o_now_orders_due c_o_now_orders_life c_o_now_orders_had = some x9 → ∀ (H : Heap) (locs : List Loc) (ls : Array Slot), va_P D vwCl [oL a0 a_o a_d c_lanes c_positions c_gap c_products c_lots c_orders, oX7 a_o a_o_now a_o_past c_o_acts c_o_nextSlot a_o_plan a_o_picker a_o_rest a_o_packed, oX6 a_o_now c_o_now_today c_o_now_products c_o_now_itemCount a_o_now_items a_o_now_books a_o_now_terms a_o_now_shelves a_o_now_lots a_o_now_orders, oX5 a_o_now_shelves c_o_now_shelves_lanes c_o_now_shelves_positions c_o_now_shelves_room c_o_now_shelves_gap c_o_now_shelves_places c_o_now_shelves_picked a_o_now_shelves_lot a_o_now_shelves_pieces a_o_now_shelves_mark a_o_now_shelves_byDistance, rI cI a_o_now_shelves_lot 48 c_o_now_shelves_lot, rI cI a_o_now_shelves_pieces 48 c_o_now_shelves_pieces, oX1 a_o_now_lots c_o_now_lots_count a_o_now_lots_product a_o_now_lots_last a_o_now_lots_cost a_o_now_lots_state a_o_now_lots_byLast, rI cI a_o_now_lots_product 24 c_o_now_lots_product, rI cI a_o_now_lots_last 24 c_o_now_lots_last, rI cI a_o_now_lots_cost 24 c_o_now_lots_cost, rI cI a_o_now_lots_state 24 c_o_now_lots_state, oX2 a_o_now_orders c_o_now_orders_count c_o_now_orders_gifts a_o_now_orders_customer a_o_now_orders_product a_o_now_orders_open a_o_now_orders_due a_o_now_orders_life a_o_now_orders_byDue a_o_now_orders_had a_o_now_orders_stamps, rI cI a_o_now_orders_customer 40 c_o_now_orders_customer, rI cI a_o_now_orders_product 40 c_o_now_orders_product, rI cI a_o_now_orders_open 40 c_o_now_orders_open, rI cI a_o_now_orders_due 40 c_o_now_orders_due, rI cI a_o_now_orders_life 40 c_o_now_orders_life, rI cI a_o_now_orders_had 960 c_o_now_orders_had] H → va_D A [oL a0 a_o a_d c_lanes c_positions c_gap c_products c_lots c_orders, oX7 a_o a_o_now a_o_past c_o_acts c_o_nextSlot a_o_plan a_o_picker a_o_rest a_o_packed, oX6 a_o_now c_o_now_today c_o_now_products c_o_now_itemCount a_o_now_items a_o_now_books a_o_now_terms a_o_now_shelves a_o_now_lots a_o_now_orders, oX5 a_o_now_shelves c_o_now_shelves_lanes c_o_now_shelves_positions c_o_now_shelves_room c_o_now_shelves_gap c_o_now_shelves_places c_o_now_shelves_picked a_o_now_shelves_lot a_o_now_shelves_pieces a_o_now_shelves_mark a_o_now_shelves_byDistance, rI cI a_o_now_shelves_lot 48 c_o_now_shelves_lot, rI cI a_o_now_shelves_pieces 48 c_o_now_shelves_pieces, oX1 a_o_now_lots c_o_now_lots_count a_o_now_lots_product a_o_now_lots_last a_o_now_lots_cost a_o_now_lots_state a_o_now_lots_byLast, rI cI a_o_now_lots_product 24 c_o_now_lots_product, rI cI a_o_now_lots_last 24 c_o_now_lots_last, rI cI a_o_now_lots_cost 24 c_o_now_lots_cost, rI cI a_o_now_lots_state 24 c_o_now_lots_state, oX2 a_o_now_orders c_o_now_orders_count c_o_now_orders_gifts a_o_now_orders_customer a_o_now_orders_product a_o_now_orders_open a_o_now_orders_due a_o_now_orders_life a_o_now_orders_byDue a_o_now_orders_had a_o_now_orders_stamps, rI cI a_o_now_orders_customer 40 c_o_now_orders_customer, rI cI a_o_now_orders_product 40 c_o_now_orders_product, rI cI a_o_now_orders_open 40 c_o_now_orders_open, rI cI a_o_now_orders_due 40 c_o_now_orders_due, rI cI a_o_now_orders_life 40 c_o_now_orders_life, rI cI a_o_now_orders_had 960 c_o_now_orders_had] → va_S A s.heap H locs → lv_has ls 4 [(0, .ref a0), (1, .int n1), (2, .int n2)] → WW H locs 0 0 (F0 m 87 ls [.int t0]) := by
        intro n1 n2 t0 hf H locs ls hP hD hS hl
        unfold f_L_isKnown_L2_J87 at hf
        refine (hWW _ _ _ _ _).mpr ?_
        refine lv_iload_n hx hb dL_isKnown_87 rfl (lv_at hl 2 rfl) ?_
        refine lv_if_ne (tgt := 95) hx hb dL_isKnown_88 (by decide) (fun h16 => ?_) (fun h16 => ?_)
        · have hf := ineg h16 hf
          refine lv_iconst (v := 0) hx hb dL_isKnown_95 (by decide) ?_
          exact (hWW _ _ _ _ _).mp (hJ96 _ _ _ hf _ _ ls hP hD hS (lv_sub hl [0, 1] rfl))
        · have hf := ipos h16 hf
          refine lv_iconst (v := 1) hx hb dL_isKnown_91 (by decide) ?_
          refine lv_goto (tgt := 96) hx hb dL_isKnown_92 (by decide) ?_
          exact (hWW _ _ _ _ _).mp (hJ96 _ _ _ hf _ _ ls hP hD hS (lv_sub hl [0, 1] rfl))
      refine (hWW _ _ _ _ _).mpr ?_
      refine lv_iload_n hx hb dL_isKnown_2 rfl (lv_at hl 1 rfl) ?_
      refine lv_aload_n hx hb dL_isKnown_3 rfl (lv_at hl 0 rfl) ?_
      refine va_get (D := D) (ci := 8) (v := .int c_lots) (C := RL) (T := TL) (N := 8) hx hb hts (fun w h => mb (iL w h)) hown hK hP 0 rfl rfl 6 (by decide) (hts _ (mb tb_317)) (fun _ h9 => h9) rfl dL_isKnown_4 ?_
      refine lv_icmp_ge (tgt := 107) hx hb dL_isKnown_7 (by decide) (fun h1 => ?_) (fun h1 => ?_)
      · have hf := ipos h1 hf
        obtain rfl := Option.some.inj hf
        cases lpx_r hlp
        exact (hWW _ _ _ _ _).mp (K1 rfl _ _ ls hP hD hS (lv_sub hl [] rfl))
      · have hf := ineg h1 hf
        refine lv_iconst (v := 0) hx hb dL_isKnown_10 (by decide) ?_
        refine lv_istore_n (lv' := [(2, .int 0), (0, .ref a0), (1, .int n1)]) hx hb dL_isKnown_11 rfl hl (by decide) rfl (fun ls hl => ?_)
        refine lv_iconst (v := 0) hx hb dL_isKnown_12 (by decide) ?_
        refine lv_istore_n (lv' := [(3, .int 0), (2, .int 0), (0, .ref a0), (1, .int n1)]) hx hb dL_isKnown_13 rfl hl (by decide) rfl (fun ls hl => ?_)
        obtain ⟨m9, hc8, hf⟩ := ob1 hf
        refine (hWW _ _ _ _ _).mp (hL14 fu _ _ _ _ hc8 (fun H locs ls hP hD hS hl => ?_) _ _ ls hP hD hS (lv_sub hl [2, 3, 1, 0] rfl))
        · refine (hWW _ _ _ _ _).mpr ?_
          refine lv_aload_n hx hb dL_isKnown_58 rfl (lv_at hl 0 rfl) ?_
          refine va_get (D := D) (ci := 8) (v := .ref a_o) (C := RL) (T := TL) (N := 8) hx hb hts (fun w h => mb (iL w h)) hown hK hP 0 rfl rfl 0 (by decide) (hts _ (mb tb_311)) (fun _ h9 => h9) rfl dL_isKnown_59 ?_
          refine lv_iload_n hx hb dL_isKnown_62 rfl (lv_at hl 1 rfl) ?_
          obtain ⟨r10, hc11, hf⟩ := ob1 hf
          refine rx_calli (r9 := r10) (vx_runV (As := [.int n1]) (rest := []) ⟨hx, hb, hml, hown, hts⟩ (k_X7_customersOf l hl0 D cI cJ cZ cS B0 H a_o a_o_now a_o_past a_o_plan a_o_picker a_o_rest a_o_packed a_o_now_items a_o_now_books a_o_now_terms a_o_now_shelves a_o_now_lots a_o_now_orders a_o_now_lots_product a_o_now_lots_last a_o_now_lots_cost a_o_now_lots_state a_o_now_lots_byLast a_o_now_orders_customer a_o_now_orders_product a_o_now_orders_open a_o_now_orders_due a_o_now_orders_life a_o_now_orders_byDue a_o_now_orders_had a_o_now_orders_stamps c_o_acts c_o_nextSlot c_o_now_today c_o_now_products c_o_now_itemCount c_o_now_lots_count c_o_now_orders_count c_o_now_orders_gifts c_o_now_orders_customer c_o_now_orders_had n1 r10 hc11) (cwV 1 hts (gV tb_810 tb_811 tb_812 tb_1 tb_813) rfl rfl rfl (by decide +kernel) ⟨Nat.le_of_ble_eq_true rfl, Nat.le_of_ble_eq_true rfl⟩) ⟨rp_blind, va_recv hK hP (ci := 6) (q0 := 1) rfl rfl, rp_pre (hP.sub [1, 2, 6, 11, 12, 17] rfl) hK (hBn _ _ hS) (hEn _ _ hS)⟩ rfl rfl hl.1 rfl (lv_room (Nat.le_of_ble_eq_true rfl)) dL_isKnown_63 ⟨Nat.le_of_ble_eq_true rfl, Nat.le_of_ble_eq_true rfl⟩) hS hA (fun E _ _ _ _ h9 _ _ _ _ _ _ => (mx_no hf h9).elim) (fun r10v h9 => ?_)
          have hf := mx_of hf h9
          clear h9
          refine lv_iload_n hx hb dL_isKnown_66 rfl (lv_at hl 2 rfl) ?_
          refine lv_icmp_ne (tgt := 99) hx hb dL_isKnown_67 (by decide) (fun h12 => ?_) (fun h12 => ?_)
          · have hf := ineg h12 hf
            obtain rfl := Option.some.inj hf
            cases lpx_r hlp
            exact (hWW _ _ _ _ _).mp (K0 rfl _ _ ls hP hD hS (lv_sub hl [] rfl))
          · have hf := ipos h12 hf
            refine lv_aload_n hx hb dL_isKnown_70 rfl (lv_at hl 0 rfl) ?_
            refine va_get (D := D) (ci := 8) (v := .ref a_o) (C := RL) (T := TL) (N := 8) hx hb hts (fun w h => mb (iL w h)) hown hK hP 0 rfl rfl 0 (by decide) (hts _ (mb tb_311)) (fun _ h9 => h9) rfl dL_isKnown_71 ?_
            refine lv_iload_n hx hb dL_isKnown_74 rfl (lv_at hl 1 rfl) ?_
            refine lv_iconst (v := 5) hx hb dL_isKnown_75 (by decide) ?_
            obtain ⟨r13, hc14, hf⟩ := ob1 hf
            refine rx_calli (r9 := r13) (vx_runV (As := [.int n1, .int 5]) (rest := []) ⟨hx, hb, hml, hown, hts⟩ (k_X7_lotAt l hl0 D cI cJ cZ cS B0 H a_o a_o_now a_o_past a_o_plan a_o_picker a_o_rest a_o_packed a_o_now_items a_o_now_books a_o_now_terms a_o_now_shelves a_o_now_lots a_o_now_orders a_o_now_shelves_lot a_o_now_shelves_pieces a_o_now_shelves_mark a_o_now_shelves_byDistance a_o_now_lots_product a_o_now_lots_last a_o_now_lots_cost a_o_now_lots_state a_o_now_lots_byLast a_o_now_orders_customer a_o_now_orders_product a_o_now_orders_open a_o_now_orders_due a_o_now_orders_life a_o_now_orders_byDue a_o_now_orders_had a_o_now_orders_stamps c_o_acts c_o_nextSlot c_o_now_today c_o_now_products c_o_now_itemCount c_o_now_shelves_lanes c_o_now_shelves_positions c_o_now_shelves_room c_o_now_shelves_gap c_o_now_shelves_places c_o_now_shelves_picked c_o_now_shelves_lot c_o_now_shelves_pieces c_o_now_lots_count c_o_now_lots_product c_o_now_lots_last c_o_now_lots_cost c_o_now_lots_state c_o_now_orders_count c_o_now_orders_gifts c_o_now_orders_had n1 5 r13 hc14) (cwV 2 hts (gV tb_716 tb_717 tb_718 tb_1 tb_719) rfl rfl rfl (by decide +kernel) ⟨Nat.le_of_ble_eq_true rfl, Nat.le_of_ble_eq_true rfl⟩) ⟨rp_blind, va_recv hK hP (ci := 6) (q0 := 1) rfl rfl, rp_pre (hP.sub [1, 2, 3, 4, 5, 6, 7, 8, 9, 10, 11, 17] rfl) hK (hBn _ _ hS) (hEn _ _ hS)⟩ rfl rfl hl.1 rfl (lv_room (Nat.le_of_ble_eq_true rfl)) dL_isKnown_76 ⟨Nat.le_of_ble_eq_true rfl, Nat.le_of_ble_eq_true rfl⟩) hS hA (fun E _ _ _ _ h9 _ _ _ _ _ _ => (mx_no hf h9).elim) (fun r13v h9 => ?_)
            have hf := mx_of hf h9
            clear h9
            refine lv_if_ne (tgt := 86) hx hb dL_isKnown_79 (by decide) (fun h15 => ?_) (fun h15 => ?_)
            · have hf := ineg h15 hf
              refine lv_iconst (v := 0) hx hb dL_isKnown_86 (by decide) ?_
              exact (hWW _ _ _ _ _).mp (hJ87 _ _ _ hf _ _ ls hP hD hS (lv_sub hl [0, 1, 2] rfl))
            · have hf := ipos h15 hf
              refine lv_iconst (v := 1) hx hb dL_isKnown_82 (by decide) ?_
              refine lv_goto (tgt := 87) hx hb dL_isKnown_83 (by decide) ?_
              exact (hWW _ _ _ _ _).mp (hJ87 _ _ _ hf _ _ ls hP hD hS (lv_sub hl [0, 1, 2] rfl))
  refine (hWW _ _ _ _ _).mpr ?_
  refine lv_iconst (v := 0) hx hb dL_isKnown_0 (by decide) ?_
  refine lv_istore_n (lv' := [(1, .int 0), (0, .ref a0)]) hx hb dL_isKnown_1 rfl hl (by decide) rfl (fun ls hl => ?_)
  obtain ⟨e19, hc18, hf⟩ := ob1 hf
  refine (hWW _ _ _ _ _).mp (hL2 fu _ _ hc18 ?_ ?_ _ _ ls hP hD hS (lv_sub hl [1, 0] rfl))
  · intro  hz H locs ls hP hD hS hl
    subst hz
    have hf := sel_0_2 hf
    refine (hWW _ _ _ _ _).mpr ?_
    refine lv_iconst (v := 0) hx hb dL_isKnown_99 (by decide) ?_
    cases hf
    refine W.widen (k := 1) (n := 6) (Nat.le_of_ble_eq_true rfl) (Nat.le_of_ble_eq_true rfl) ?_
    exact W.zret hx hb hr rfl (fun t ht hW => ⟨⟨_, (), rfl, rfl, (by show va_P D vwCl _ t.heap; rw [ht]; exact hP)⟩, hS.F ht⟩) hS.2.2 dL_isKnown_100
  · intro  hz H locs ls hP hD hS hl
    subst hz
    have hf := sel_1_2 hf
    refine (hWW _ _ _ _ _).mpr ?_
    refine lv_iconst (v := 1) hx hb dL_isKnown_107 (by decide) ?_
    cases hf
    refine W.widen (k := 1) (n := 6) (Nat.le_of_ble_eq_true rfl) (Nat.le_of_ble_eq_true rfl) ?_
    exact W.zret hx hb hr rfl (fun t ht hW => ⟨⟨_, (), rfl, rfl, (by show va_P D vwCl _ t.heap; rw [ht]; exact hP)⟩, hS.F ht⟩) hS.2.2 dL_isKnown_108
