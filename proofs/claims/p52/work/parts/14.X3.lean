def f_X3_look_L17_J71 (n2 : Int32) (n3 : Int32) (c_deepest : Int32) (c_shallowest : Int32) (c_widest : Int32) (cp1_positions : Int32) (cp1_picked : Int64) : Option ((Int32 × Int32 × Int32 × Int32) ⊕ (Int32 × Int32 × Int32)) :=
  some (.inl (n3 + 1, c_deepest, c_shallowest, c_widest))
def f_X3_look_L17_J66 (n2 : Int32) (n3 : Int32) (c_deepest : Int32) (c_shallowest : Int32) (c_widest : Int32) (cp1_positions : Int32) (cp1_picked : Int64) : Option ((Int32 × Int32 × Int32 × Int32) ⊕ (Int32 × Int32 × Int32)) :=
  f_X3_look_L17_J71 n2 n3 n3 c_shallowest c_widest cp1_positions cp1_picked
def f_X3_look_L17 (n2 : Int32) (cp1_positions : Int32) (cp1_picked : Int64) (n3 : Int32) (c_deepest : Int32) (c_shallowest : Int32) (c_widest : Int32) : Option ((Int32 × Int32 × Int32 × Int32) ⊕ (Int32 × Int32 × Int32)) :=
  (if cp1_positions < n3 then some (.inr (c_deepest, c_shallowest, c_widest))
  else bnd1 (f_X5_isPicked n2 n3 cp1_positions cp1_picked) (fun r2 =>
  ((if r2 = 0 then f_X3_look_L17_J71 n2 n3 c_deepest c_shallowest c_widest cp1_positions cp1_picked
  else (if c_deepest = 0 then f_X3_look_L17_J66 n2 n3 c_deepest n3 c_widest cp1_positions cp1_picked
  else f_X3_look_L17_J66 n2 n3 c_deepest c_shallowest (if c_widest < (n3 - c_deepest) then (n3 - c_deepest) else c_widest) cp1_positions cp1_picked)))))
def f_X3_look (v2 : Int32) (c_deepest : Int32) (c_shallowest : Int32) (c_widest : Int32) (cp1_positions : Int32) (cp1_picked : Int64) : Option (Int32 × Int32 × Int32) :=
  (bnd3 (loop (fun z => f_X3_look_L17 v2 cp1_positions cp1_picked z.1 z.2.1 z.2.2.1 z.2.2.2) fu (1, 0, 0, 0)) fun c7 c8 c9 =>
  some (c7, c8, c9))
set_option maxHeartbeats 4000000 in
set_option maxRecDepth 100000 in
theorem k_X3_look (l : Launch) (hl0 : l.stackTraces = false) (D : va_G) (cI cJ cZ cS : ClassId) (B0 : Nat) (sz : Nat) (a0 a_least a_next ap1 ap1_lot ap1_pieces ap1_mark ap1_byDistance : Nat) (c_deepest : Int32) (c_shallowest : Int32) (c_widest : Int32) (cp1_lanes : Int32) (cp1_positions : Int32) (cp1_room : Int32) (cp1_gap : Int32) (cp1_places : Int32) (cp1_picked : Int64) (v2 : Int32) (oc_deepest : Int32) (oc_shallowest : Int32) (oc_widest : Int32)  (hf : f_X3_look v2 c_deepest c_shallowest c_widest cp1_positions cp1_picked = some (oc_deepest, oc_shallowest, oc_widest)) : Met l yX3_look (wz yX3_look cX3_look 4 none) ({ frames := 1, cells := 0, slots := 0, locals := 40 }) (va_Pc [.ref a0, .ref ap1, .int v2] (wp D cI cJ cZ cS B0 [oX3 a0 a_least a_next c_deepest c_shallowest c_widest, oX5 ap1 cp1_lanes cp1_positions cp1_room cp1_gap cp1_places cp1_picked ap1_lot ap1_pieces ap1_mark ap1_byDistance] sz)) (va_Qv (fun (_ : Unit) => True) (fun _ t => va_P D vwCl [oX3 a0 a_least a_next oc_deepest oc_shallowest oc_widest, oX5 ap1 cp1_lanes cp1_positions cp1_room cp1_gap cp1_places cp1_picked ap1_lot ap1_pieces ap1_mark ap1_byDistance] t.heap) (va_A [oX3 a0 a_least a_next c_deepest c_shallowest c_widest, oX5 ap1 cp1_lanes cp1_positions cp1_room cp1_gap cp1_places cp1_picked ap1_lot ap1_pieces ap1_mark ap1_byDistance] sz)) 0 0 (va_A [oX3 a0 a_least a_next c_deepest c_shallowest c_widest, oX5 ap1 cp1_lanes cp1_positions cp1_room cp1_gap cp1_places cp1_picked ap1_lot ap1_pieces ap1_mark ap1_byDistance] sz) := by
  refine Met.ofW (cc := cX3_look) (maxL := 4) (ret := none) (by decide) rfl ?_
  intro p e s m args below meth c s₁ B hml hv
  obtain ⟨rfl, hsz, hP, hK, hD0, hB0, hE⟩ := hv
  subst hsz
  have hx := B.exec
  have hb := B.bytes
  have hr := B.returns
  have hts := atoms_spec (ws := (wz yX3_look cX3_look 4 none)) B.pre
  have hown : s.vm.findClass RX3 = some m.cls := findClass_of_methodNamed B.named
  have hlocks := B.notSynchronized
  have hD := hD0.self (sz := s.heap.size)
  have hAB : ∀ q : Nat, va_A [oX3 a0 a_least a_next c_deepest c_shallowest c_widest, oX5 ap1 cp1_lanes cp1_positions cp1_room cp1_gap cp1_places cp1_picked ap1_lot ap1_pieces ap1_mark ap1_byDistance] s.heap.size q → B0 ≤ q := va_A_B hD0 hB0
  generalize hAe : va_A [oX3 a0 a_least a_next c_deepest c_shallowest c_widest, oX5 ap1 cp1_lanes cp1_positions cp1_room cp1_gap cp1_places cp1_picked ap1_lot ap1_pieces ap1_mark ap1_byDistance] s.heap.size = A at hD hAB ⊢
  have hA : ∀ q : Nat, s.heap.size ≤ q → A q := fun q h => by rw [← hAe]; exact Or.inr h
  have hFa := hA
  have hS : va_S A s.heap s.heap [] := va_S.rf
  have hBn := fun (H : Heap) (locs : List Loc) (h : va_S A s.heap H locs) => Nat.le_trans hB0 h.1
  have hEn := fun (H : Heap) (locs : List Loc) (h : va_S A s.heap H locs) => gE_now hE h hAB
  have hl := lv_entry ([.ref a0, .ref ap1, .int v2]) (n := 4) (Nat.le_of_ble_eq_true rfl)
  rw [lg_entry_eq]
  generalize (lg_sl ([.ref a0, .ref ap1, .int v2]) ++ List.replicate (4 - (lg_sl ([.ref a0, .ref ap1, .int v2])).length) Slot.unset).toArray = ls at hl ⊢
  have hl : lv_has ls 4 [(0, .ref a0), (1, .ref ap1), (2, .int v2)] := hl
  obtain ⟨H, hHe⟩ : ∃ H : Heap, H = s.heap := ⟨_, rfl⟩
  have hP : va_P D vwCl [oX3 a0 a_least a_next c_deepest c_shallowest c_widest, oX5 ap1 cp1_lanes cp1_positions cp1_room cp1_gap cp1_places cp1_picked ap1_lot ap1_pieces ap1_mark ap1_byDistance] H := by rw [hHe]; exact hP
  have hS : va_S A s.heap H [] := by rw [hHe]; exact hS
  refine W_heq hHe ?_
  unfold f_X3_look at hf
  refine gen_goW (fun WW hWW => ?_)
  have hL17 : ∀ (n : Nat) (n2 : Int32) (n3 : Int32) (c_deepest : Int32) (c_shallowest : Int32) (c_widest : Int32) (e_c_deepest : Int32) (e_c_shallowest : Int32) (e_c_widest : Int32), loop (fun z => f_X3_look_L17 n2 cp1_positions cp1_picked z.1 z.2.1 z.2.2.1 z.2.2.2) n (n3, c_deepest, c_shallowest, c_widest) = some (e_c_deepest, e_c_shallowest, e_c_widest) → (∀ (H : Heap) (locs : List Loc) (ls : Array Slot), va_P D vwCl [oX3 a0 a_least a_next e_c_deepest e_c_shallowest e_c_widest, oX5 ap1 cp1_lanes cp1_positions cp1_room cp1_gap cp1_places cp1_picked ap1_lot ap1_pieces ap1_mark ap1_byDistance] H → va_D A [oX3 a0 a_least a_next e_c_deepest e_c_shallowest e_c_widest, oX5 ap1 cp1_lanes cp1_positions cp1_room cp1_gap cp1_places cp1_picked ap1_lot ap1_pieces ap1_mark ap1_byDistance] → va_S A s.heap H locs → lv_has ls 4 [] → WW H locs 0 0 (F0 m 77 ls [])) → ∀ (H : Heap) (locs : List Loc) (ls : Array Slot), va_P D vwCl [oX3 a0 a_least a_next c_deepest c_shallowest c_widest, oX5 ap1 cp1_lanes cp1_positions cp1_room cp1_gap cp1_places cp1_picked ap1_lot ap1_pieces ap1_mark ap1_byDistance] H → va_D A [oX3 a0 a_least a_next c_deepest c_shallowest c_widest, oX5 ap1 cp1_lanes cp1_positions cp1_room cp1_gap cp1_places cp1_picked ap1_lot ap1_pieces ap1_mark ap1_byDistance] → va_S A s.heap H locs → lv_has ls 4 [(0, .ref a0), (1, .ref ap1), (2, .int n2), (3, .int n3)] → WW H locs 0 0 (F0 m 17 ls []) := by
    intro n
    induction n with
    | zero =>
      intro n2 n3 c_deepest c_shallowest c_widest e_c_deepest e_c_shallowest e_c_widest hlp
      exact absurd hlp (by simp [loop])
    | succ n ih =>
      intro n2 n3 c_deepest c_shallowest c_widest e_c_deepest e_c_shallowest e_c_widest hlp K H locs ls hP hD hS hl
      obtain ⟨x9, hf, hlp⟩ := loop_s hlp
      have hf : f_X3_look_L17 n2 cp1_positions cp1_picked n3 c_deepest c_shallowest c_widest = some x9 := hf
      unfold f_X3_look_L17 at hf
      have hJ71 : ∀ (n3 : Int32) (c_deepest : Int32) (c_shallowest : Int32) (c_widest : Int32), f_X3_look_L17_J71 n2 n3 c_deepest c_shallowest c_widest cp1_positions cp1_picked = some x9 → ∀ (H : Heap) (locs : List Loc) (ls : Array Slot), va_P D vwCl [oX3 a0 a_least a_next c_deepest c_shallowest c_widest, oX5 ap1 cp1_lanes cp1_positions cp1_room cp1_gap cp1_places cp1_picked ap1_lot ap1_pieces ap1_mark ap1_byDistance] H → va_D A [oX3 a0 a_least a_next c_deepest c_shallowest c_widest, oX5 ap1 cp1_lanes cp1_positions cp1_room cp1_gap cp1_places cp1_picked ap1_lot ap1_pieces ap1_mark ap1_byDistance] → va_S A s.heap H locs → lv_has ls 4 [(0, .ref a0), (1, .ref ap1), (2, .int n2), (3, .int n3)] → WW H locs 0 0 (F0 m 71 ls []) := by
        intro n3 c_deepest c_shallowest c_widest hf H locs ls hP hD hS hl
        unfold f_X3_look_L17_J71 at hf
        refine (hWW _ _ _ _ _).mpr ?_
        refine lv_iinc (v := (n3 + 1)) (lv' := [(3, .int (n3 + 1)), (0, .ref a0), (1, .ref ap1), (2, .int n2)]) hx hb dX3_look_71 hl (k := 3) rfl rfl (by decide) rfl (fun ls hl => ?_)
        refine lv_goto (tgt := 17) hx hb dX3_look_74 (by decide) ?_
        obtain rfl := Option.some.inj hf
        exact (hWW _ _ _ _ _).mp (ih _ _ _ _ _ _ _ _ hlp K _ _ ls hP hD hS (lv_sub hl [1, 2, 3, 0] rfl))
      have hJ66 : ∀ (n3 : Int32) (c_deepest : Int32) (c_shallowest : Int32) (c_widest : Int32), f_X3_look_L17_J66 n2 n3 c_deepest c_shallowest c_widest cp1_positions cp1_picked = some x9 → ∀ (H : Heap) (locs : List Loc) (ls : Array Slot), va_P D vwCl [oX3 a0 a_least a_next c_deepest c_shallowest c_widest, oX5 ap1 cp1_lanes cp1_positions cp1_room cp1_gap cp1_places cp1_picked ap1_lot ap1_pieces ap1_mark ap1_byDistance] H → va_D A [oX3 a0 a_least a_next c_deepest c_shallowest c_widest, oX5 ap1 cp1_lanes cp1_positions cp1_room cp1_gap cp1_places cp1_picked ap1_lot ap1_pieces ap1_mark ap1_byDistance] → va_S A s.heap H locs → lv_has ls 4 [(0, .ref a0), (1, .ref ap1), (2, .int n2), (3, .int n3)] → WW H locs 0 0 (F0 m 66 ls []) := by
        intro n3 c_deepest c_shallowest c_widest hf H locs ls hP hD hS hl
        unfold f_X3_look_L17_J66 at hf
        refine (hWW _ _ _ _ _).mpr ?_
        refine lv_aload_n hx hb dX3_look_66 rfl (lv_at hl 0 rfl) ?_
        refine lv_iload_n hx hb dX3_look_67 rfl (lv_at hl 3 rfl) ?_
        refine va_put (D := D) (ci := 2) (v := .int n3) (ty := .int) (C := RX3) (T := TX3) (N := 5) hx hb hts (fun w h => mb (iX3 w h)) tyX3 tyX3_ok nmX3 hown hK hP hD hS 0 rfl rfl 2 (by decide) (hts _ (mb tb_238)) (fun _ h9 => h9) rfl (by decide +kernel) rfl rfl (Nat.le_of_ble_eq_true rfl) dX3_look_68 (fun H locs hP hD hS => ?_)
        have hP : va_P D vwCl [oX3 a0 a_least a_next n3 c_shallowest c_widest, oX5 ap1 cp1_lanes cp1_positions cp1_room cp1_gap cp1_places cp1_picked ap1_lot ap1_pieces ap1_mark ap1_byDistance] H := hP
        have hD : va_D A [oX3 a0 a_least a_next n3 c_shallowest c_widest, oX5 ap1 cp1_lanes cp1_positions cp1_room cp1_gap cp1_places cp1_picked ap1_lot ap1_pieces ap1_mark ap1_byDistance] := hD
        exact (hWW _ _ _ _ _).mp (hJ71 _ _ _ _ hf _ _ ls hP hD hS (lv_sub hl [0, 1, 2, 3] rfl))
      refine (hWW _ _ _ _ _).mpr ?_
      refine lv_iload_n hx hb dX3_look_17 rfl (lv_at hl 3 rfl) ?_
      refine lv_aload_n hx hb dX3_look_18 rfl (lv_at hl 1 rfl) ?_
      refine va_get (D := D) (ci := 4) (v := .int cp1_positions) (C := RX5) (T := TX5) (N := 10) hx hb hts (fun w h => mb (iX5 w h)) hown hK hP 1 rfl rfl 1 (by decide) (hts _ (mb tb_48)) (fun _ h9 => h9) rfl dX3_look_19 ?_
      refine lv_icmp_gt (tgt := 77) hx hb dX3_look_22 (by decide) (fun h1 => ?_) (fun h1 => ?_)
      · have hf := ipos h1 hf
        obtain rfl := Option.some.inj hf
        cases lpx_r hlp
        exact (hWW _ _ _ _ _).mp (K _ _ ls hP hD hS (lv_sub hl [] rfl))
      · have hf := ineg h1 hf
        refine lv_aload_n hx hb dX3_look_25 rfl (lv_at hl 1 rfl) ?_
        refine lv_iload_n hx hb dX3_look_26 rfl (lv_at hl 2 rfl) ?_
        refine lv_iload_n hx hb dX3_look_27 rfl (lv_at hl 3 rfl) ?_
        obtain ⟨r2, hc3, hf⟩ := ob1 hf
        refine ro_calli (r := r2) (va_runV (As := [.int n2, .int n3]) (rest := []) ⟨hx, hb, hml, hown, hts⟩ (k_X5_isPicked l hl0 D cI cJ cZ cS B0 H ap1 ap1_lot ap1_pieces ap1_mark ap1_byDistance cp1_lanes cp1_positions cp1_room cp1_gap cp1_places cp1_picked n2 n3 r2 hc3) (cwV 2 hts (gV tb_758 tb_759 tb_760 tb_3 tb_761) rfl rfl rfl (by decide +kernel) ⟨Nat.le_of_ble_eq_true rfl, Nat.le_of_ble_eq_true rfl⟩) ⟨rp_blind, va_recv hK hP (ci := 4) (q0 := 1) rfl rfl, rp_pre (hP.sub [1] rfl) hK (hBn _ _ hS) (hEn _ _ hS)⟩ rfl rfl hl.1 rfl (lv_room (Nat.le_of_ble_eq_true rfl)) dX3_look_28 ⟨Nat.le_of_ble_eq_true rfl, Nat.le_of_ble_eq_true rfl⟩) ?_
        refine lv_if_eq (tgt := 71) hx hb dX3_look_31 (by decide) (fun h4 => ?_) (fun h4 => ?_)
        · have hf := ipos h4 hf
          exact (hWW _ _ _ _ _).mp (hJ71 _ _ _ _ hf _ _ ls hP hD hS (lv_sub hl [0, 1, 2, 3] rfl))
        · have hf := ineg h4 hf
          refine lv_aload_n hx hb dX3_look_34 rfl (lv_at hl 0 rfl) ?_
          refine va_get (D := D) (ci := 2) (v := .int c_deepest) (C := RX3) (T := TX3) (N := 5) hx hb hts (fun w h => mb (iX3 w h)) hown hK hP 0 rfl rfl 2 (by decide) (hts _ (mb tb_238)) (fun _ h9 => h9) rfl dX3_look_35 ?_
          refine lv_if_ne (tgt := 49) hx hb dX3_look_38 (by decide) (fun h5 => ?_) (fun h5 => ?_)
          · have hf := ineg h5 hf
            refine lv_aload_n hx hb dX3_look_49 rfl (lv_at hl 0 rfl) ?_
            refine lv_aload_n hx hb dX3_look_50 rfl (lv_at hl 0 rfl) ?_
            refine va_get (D := D) (ci := 2) (v := .int c_widest) (C := RX3) (T := TX3) (N := 5) hx hb hts (fun w h => mb (iX3 w h)) hown hK hP 0 rfl rfl 4 (by decide) (hts _ (mb tb_240)) (fun _ h9 => h9) rfl dX3_look_51 ?_
            refine lv_iload_n hx hb dX3_look_54 rfl (lv_at hl 3 rfl) ?_
            refine lv_aload_n hx hb dX3_look_55 rfl (lv_at hl 0 rfl) ?_
            refine va_get (D := D) (ci := 2) (v := .int c_deepest) (C := RX3) (T := TX3) (N := 5) hx hb hts (fun w h => mb (iX3 w h)) hown hK hP 0 rfl rfl 2 (by decide) (hts _ (mb tb_238)) (fun _ h9 => h9) rfl dX3_look_56 ?_
            refine lv_isub hx hb dX3_look_59 ?_
            refine va_mmax hx hb (hml.trans hl.1.symm) hown (hts _ (mb tb_762)) (hts _ (mb tb_685)) (hts _ (mb tb_8)) (hts _ (mb wm_max)) (Nat.le_of_ble_eq_true rfl) (Nat.le_of_ble_eq_true rfl) (Nat.zero_le _) (Nat.zero_le _) dX3_look_60 ?_
            refine va_put (D := D) (ci := 2) (v := .int (if c_widest < (n3 - c_deepest) then (n3 - c_deepest) else c_widest)) (ty := .int) (C := RX3) (T := TX3) (N := 5) hx hb hts (fun w h => mb (iX3 w h)) tyX3 tyX3_ok nmX3 hown hK hP hD hS 0 rfl rfl 4 (by decide) (hts _ (mb tb_240)) (fun _ h9 => h9) rfl (by decide +kernel) rfl rfl (Nat.le_of_ble_eq_true rfl) dX3_look_63 (fun H locs hP hD hS => ?_)
            have hP : va_P D vwCl [oX3 a0 a_least a_next c_deepest c_shallowest (if c_widest < (n3 - c_deepest) then (n3 - c_deepest) else c_widest), oX5 ap1 cp1_lanes cp1_positions cp1_room cp1_gap cp1_places cp1_picked ap1_lot ap1_pieces ap1_mark ap1_byDistance] H := hP
            have hD : va_D A [oX3 a0 a_least a_next c_deepest c_shallowest (if c_widest < (n3 - c_deepest) then (n3 - c_deepest) else c_widest), oX5 ap1 cp1_lanes cp1_positions cp1_room cp1_gap cp1_places cp1_picked ap1_lot ap1_pieces ap1_mark ap1_byDistance] := hD
            exact (hWW _ _ _ _ _).mp (hJ66 _ _ _ _ hf _ _ ls hP hD hS (lv_sub hl [0, 1, 2, 3] rfl))
          · have hf := ipos h5 hf
            refine lv_aload_n hx hb dX3_look_41 rfl (lv_at hl 0 rfl) ?_
            refine lv_iload_n hx hb dX3_look_42 rfl (lv_at hl 3 rfl) ?_
            refine va_put (D := D) (ci := 2) (v := .int n3) (ty := .int) (C := RX3) (T := TX3) (N := 5) hx hb hts (fun w h => mb (iX3 w h)) tyX3 tyX3_ok nmX3 hown hK hP hD hS 0 rfl rfl 3 (by decide) (hts _ (mb tb_239)) (fun _ h9 => h9) rfl (by decide +kernel) rfl rfl (Nat.le_of_ble_eq_true rfl) dX3_look_43 (fun H locs hP hD hS => ?_)
            have hP : va_P D vwCl [oX3 a0 a_least a_next c_deepest n3 c_widest, oX5 ap1 cp1_lanes cp1_positions cp1_room cp1_gap cp1_places cp1_picked ap1_lot ap1_pieces ap1_mark ap1_byDistance] H := hP
            have hD : va_D A [oX3 a0 a_least a_next c_deepest n3 c_widest, oX5 ap1 cp1_lanes cp1_positions cp1_room cp1_gap cp1_places cp1_picked ap1_lot ap1_pieces ap1_mark ap1_byDistance] := hD
            refine lv_goto (tgt := 66) hx hb dX3_look_46 (by decide) ?_
            exact (hWW _ _ _ _ _).mp (hJ66 _ _ _ _ hf _ _ ls hP hD hS (lv_sub hl [0, 1, 2, 3] rfl))
  refine (hWW _ _ _ _ _).mpr ?_
  refine lv_aload_n hx hb dX3_look_0 rfl (lv_at hl 0 rfl) ?_
  refine lv_iconst (v := 0) hx hb dX3_look_1 (by decide) ?_
  refine va_put (D := D) (ci := 2) (v := .int 0) (ty := .int) (C := RX3) (T := TX3) (N := 5) hx hb hts (fun w h => mb (iX3 w h)) tyX3 tyX3_ok nmX3 hown hK hP hD hS 0 rfl rfl 2 (by decide) (hts _ (mb tb_238)) (fun _ h9 => h9) rfl (by decide +kernel) rfl rfl (Nat.le_of_ble_eq_true rfl) dX3_look_2 (fun H locs hP hD hS => ?_)
  have hP : va_P D vwCl [oX3 a0 a_least a_next 0 c_shallowest c_widest, oX5 ap1 cp1_lanes cp1_positions cp1_room cp1_gap cp1_places cp1_picked ap1_lot ap1_pieces ap1_mark ap1_byDistance] H := hP
  have hD : va_D A [oX3 a0 a_least a_next 0 c_shallowest c_widest, oX5 ap1 cp1_lanes cp1_positions cp1_room cp1_gap cp1_places cp1_picked ap1_lot ap1_pieces ap1_mark ap1_byDistance] := hD
  refine lv_aload_n hx hb dX3_look_5 rfl (lv_at hl 0 rfl) ?_
  refine lv_iconst (v := 0) hx hb dX3_look_6 (by decide) ?_
  refine va_put (D := D) (ci := 2) (v := .int 0) (ty := .int) (C := RX3) (T := TX3) (N := 5) hx hb hts (fun w h => mb (iX3 w h)) tyX3 tyX3_ok nmX3 hown hK hP hD hS 0 rfl rfl 3 (by decide) (hts _ (mb tb_239)) (fun _ h9 => h9) rfl (by decide +kernel) rfl rfl (Nat.le_of_ble_eq_true rfl) dX3_look_7 (fun H locs hP hD hS => ?_)
  have hP : va_P D vwCl [oX3 a0 a_least a_next 0 0 c_widest, oX5 ap1 cp1_lanes cp1_positions cp1_room cp1_gap cp1_places cp1_picked ap1_lot ap1_pieces ap1_mark ap1_byDistance] H := hP
  have hD : va_D A [oX3 a0 a_least a_next 0 0 c_widest, oX5 ap1 cp1_lanes cp1_positions cp1_room cp1_gap cp1_places cp1_picked ap1_lot ap1_pieces ap1_mark ap1_byDistance] := hD
  refine lv_aload_n hx hb dX3_look_10 rfl (lv_at hl 0 rfl) ?_
  refine lv_iconst (v := 0) hx hb dX3_look_11 (by decide) ?_
  refine va_put (D := D) (ci := 2) (v := .int 0) (ty := .int) (C := RX3) (T := TX3) (N := 5) hx hb hts (fun w h => mb (iX3 w h)) tyX3 tyX3_ok nmX3 hown hK hP hD hS 0 rfl rfl 4 (by decide) (hts _ (mb tb_240)) (fun _ h9 => h9) rfl (by decide +kernel) rfl rfl (Nat.le_of_ble_eq_true rfl) dX3_look_12 (fun H locs hP hD hS => ?_)
  have hP : va_P D vwCl [oX3 a0 a_least a_next 0 0 0, oX5 ap1 cp1_lanes cp1_positions cp1_room cp1_gap cp1_places cp1_picked ap1_lot ap1_pieces ap1_mark ap1_byDistance] H := hP
  have hD : va_D A [oX3 a0 a_least a_next 0 0 0, oX5 ap1 cp1_lanes cp1_positions cp1_room cp1_gap cp1_places cp1_picked ap1_lot ap1_pieces ap1_mark ap1_byDistance] := hD
  refine lv_iconst (v := 1) hx hb dX3_look_15 (by decide) ?_
  refine lv_istore_n (lv' := [(3, .int 1), (0, .ref a0), (1, .ref ap1), (2, .int v2)]) hx hb dX3_look_16 rfl hl (by decide) rfl (fun ls hl => ?_)
  obtain ⟨c7, c8, c9, hc6, hf⟩ := ob3 hf
  refine (hWW _ _ _ _ _).mp (hL17 fu _ _ _ _ _ _ _ _ hc6 (fun H locs ls hP hD hS hl => ?_) _ _ ls hP hD hS (lv_sub hl [1, 2, 3, 0] rfl))
  · refine (hWW _ _ _ _ _).mpr ?_
    cases hf
    refine W.widen (k := 0) (n := 0) (Nat.le_of_ble_eq_true rfl) (Nat.le_of_ble_eq_true rfl) ?_
    exact W.vret hx hb hr (fun t ht hW => ⟨⟨(), rfl, trivial, (by show va_P D vwCl _ t.heap; rw [ht]; exact hP)⟩, hS.F ht⟩) hS.2.2 dX3_look_77
def f_X3_lastLane_L4_J27 (n2 : Int32) (n3 : Int32) (c_deepest : Int32) (c_shallowest : Int32) (c_widest : Int32) (cp1_lanes : Int32) (cp1_positions : Int32) (cp1_picked : Int64) : Option ((Int32 × Int32 × Int32 × Int32 × Int32) ⊕ (Int32 × Int32 × Int32 × Int32)) :=
  some (.inl (n2, n3 + 1, c_deepest, c_shallowest, c_widest))
def f_X3_lastLane_L4 (cp1_lanes : Int32) (cp1_positions : Int32) (cp1_picked : Int64) (n2 : Int32) (n3 : Int32) (c_deepest : Int32) (c_shallowest : Int32) (c_widest : Int32) : Option ((Int32 × Int32 × Int32 × Int32 × Int32) ⊕ (Int32 × Int32 × Int32 × Int32)) :=
  (if cp1_lanes ≤ n3 then some (.inr (n2, c_deepest, c_shallowest, c_widest))
  else bnd3 (f_X3_look n3 c_deepest c_shallowest c_widest cp1_positions cp1_picked) (fun o4 o5 o6 =>
  ((if o4 ≤ 0 then f_X3_lastLane_L4_J27 n2 n3 o4 o5 o6 cp1_lanes cp1_positions cp1_picked
  else f_X3_lastLane_L4_J27 n3 n3 o4 o5 o6 cp1_lanes cp1_positions cp1_picked))))
def f_X3_lastLane (c_deepest : Int32) (c_shallowest : Int32) (c_widest : Int32) (cp1_lanes : Int32) (cp1_positions : Int32) (cp1_picked : Int64) : Option (Int32 × Int32 × Int32 × Int32) :=
  (bnd4 (loop (fun z => f_X3_lastLane_L4 cp1_lanes cp1_positions cp1_picked z.1 z.2.1 z.2.2.1 z.2.2.2.1 z.2.2.2.2) fu ((-1), 0, c_deepest, c_shallowest, c_widest)) fun m9 c10 c11 c12 =>
  some (m9, c10, c11, c12))
set_option maxHeartbeats 4000000 in
set_option maxRecDepth 100000 in
theorem k_X3_lastLane (l : Launch) (hl0 : l.stackTraces = false) (D : va_G) (cI cJ cZ cS : ClassId) (B0 : Nat) (sz : Nat) (a0 a_least a_next ap1 ap1_lot ap1_pieces ap1_mark ap1_byDistance : Nat) (c_deepest : Int32) (c_shallowest : Int32) (c_widest : Int32) (cp1_lanes : Int32) (cp1_positions : Int32) (cp1_room : Int32) (cp1_gap : Int32) (cp1_places : Int32) (cp1_picked : Int64) (r9 : Int32) (oc_deepest : Int32) (oc_shallowest : Int32) (oc_widest : Int32)  (hf : f_X3_lastLane c_deepest c_shallowest c_widest cp1_lanes cp1_positions cp1_picked = some (r9, oc_deepest, oc_shallowest, oc_widest)) : Met l yX3_lastLane (wz yX3_lastLane cX3_lastLane 4 (some .int)) ({ frames := 2, cells := 0, slots := 0, locals := 63 }) (va_Pc [.ref a0, .ref ap1] (wp D cI cJ cZ cS B0 [oX3 a0 a_least a_next c_deepest c_shallowest c_widest, oX5 ap1 cp1_lanes cp1_positions cp1_room cp1_gap cp1_places cp1_picked ap1_lot ap1_pieces ap1_mark ap1_byDistance] sz)) (va_Qi (fun (r2 : Int32) (_ : Unit) => r2 = r9) (fun _ t => va_P D vwCl [oX3 a0 a_least a_next oc_deepest oc_shallowest oc_widest, oX5 ap1 cp1_lanes cp1_positions cp1_room cp1_gap cp1_places cp1_picked ap1_lot ap1_pieces ap1_mark ap1_byDistance] t.heap) (va_A [oX3 a0 a_least a_next c_deepest c_shallowest c_widest, oX5 ap1 cp1_lanes cp1_positions cp1_room cp1_gap cp1_places cp1_picked ap1_lot ap1_pieces ap1_mark ap1_byDistance] sz)) 0 0 (va_A [oX3 a0 a_least a_next c_deepest c_shallowest c_widest, oX5 ap1 cp1_lanes cp1_positions cp1_room cp1_gap cp1_places cp1_picked ap1_lot ap1_pieces ap1_mark ap1_byDistance] sz) := by
  refine Met.ofW (cc := cX3_lastLane) (maxL := 4) (ret := (some .int)) (by decide) rfl ?_
  intro p e s m args below meth c s₁ B hml hv
  obtain ⟨rfl, hsz, hP, hK, hD0, hB0, hE⟩ := hv
  subst hsz
  have hx := B.exec
  have hb := B.bytes
  have hr := B.returns
  have hts := atoms_spec (ws := (wz yX3_lastLane cX3_lastLane 4 (some .int))) B.pre
  have hown : s.vm.findClass RX3 = some m.cls := findClass_of_methodNamed B.named
  have hlocks := B.notSynchronized
  have hD := hD0.self (sz := s.heap.size)
  have hAB : ∀ q : Nat, va_A [oX3 a0 a_least a_next c_deepest c_shallowest c_widest, oX5 ap1 cp1_lanes cp1_positions cp1_room cp1_gap cp1_places cp1_picked ap1_lot ap1_pieces ap1_mark ap1_byDistance] s.heap.size q → B0 ≤ q := va_A_B hD0 hB0
  generalize hAe : va_A [oX3 a0 a_least a_next c_deepest c_shallowest c_widest, oX5 ap1 cp1_lanes cp1_positions cp1_room cp1_gap cp1_places cp1_picked ap1_lot ap1_pieces ap1_mark ap1_byDistance] s.heap.size = A at hD hAB ⊢
  have hA : ∀ q : Nat, s.heap.size ≤ q → A q := fun q h => by rw [← hAe]; exact Or.inr h
  have hFa := hA
  have hS : va_S A s.heap s.heap [] := va_S.rf
  have hBn := fun (H : Heap) (locs : List Loc) (h : va_S A s.heap H locs) => Nat.le_trans hB0 h.1
  have hEn := fun (H : Heap) (locs : List Loc) (h : va_S A s.heap H locs) => gE_now hE h hAB
  have hl := lv_entry ([.ref a0, .ref ap1]) (n := 4) (Nat.le_of_ble_eq_true rfl)
  rw [lg_entry_eq]
  generalize (lg_sl ([.ref a0, .ref ap1]) ++ List.replicate (4 - (lg_sl ([.ref a0, .ref ap1])).length) Slot.unset).toArray = ls at hl ⊢
  have hl : lv_has ls 4 [(0, .ref a0), (1, .ref ap1)] := hl
  obtain ⟨H, hHe⟩ : ∃ H : Heap, H = s.heap := ⟨_, rfl⟩
  have hP : va_P D vwCl [oX3 a0 a_least a_next c_deepest c_shallowest c_widest, oX5 ap1 cp1_lanes cp1_positions cp1_room cp1_gap cp1_places cp1_picked ap1_lot ap1_pieces ap1_mark ap1_byDistance] H := by rw [hHe]; exact hP
  have hS : va_S A s.heap H [] := by rw [hHe]; exact hS
  refine W_heq hHe ?_
  unfold f_X3_lastLane at hf
  refine gen_goW (fun WW hWW => ?_)
  have hL4 : ∀ (n : Nat) (n2 : Int32) (n3 : Int32) (c_deepest : Int32) (c_shallowest : Int32) (c_widest : Int32) (e2 : Int32) (e_c_deepest : Int32) (e_c_shallowest : Int32) (e_c_widest : Int32), loop (fun z => f_X3_lastLane_L4 cp1_lanes cp1_positions cp1_picked z.1 z.2.1 z.2.2.1 z.2.2.2.1 z.2.2.2.2) n (n2, n3, c_deepest, c_shallowest, c_widest) = some (e2, e_c_deepest, e_c_shallowest, e_c_widest) → (∀ (H : Heap) (locs : List Loc) (ls : Array Slot), va_P D vwCl [oX3 a0 a_least a_next e_c_deepest e_c_shallowest e_c_widest, oX5 ap1 cp1_lanes cp1_positions cp1_room cp1_gap cp1_places cp1_picked ap1_lot ap1_pieces ap1_mark ap1_byDistance] H → va_D A [oX3 a0 a_least a_next e_c_deepest e_c_shallowest e_c_widest, oX5 ap1 cp1_lanes cp1_positions cp1_room cp1_gap cp1_places cp1_picked ap1_lot ap1_pieces ap1_mark ap1_byDistance] → va_S A s.heap H locs → lv_has ls 4 [(2, .int e2)] → WW H locs 0 0 (F0 m 33 ls [])) → ∀ (H : Heap) (locs : List Loc) (ls : Array Slot), va_P D vwCl [oX3 a0 a_least a_next c_deepest c_shallowest c_widest, oX5 ap1 cp1_lanes cp1_positions cp1_room cp1_gap cp1_places cp1_picked ap1_lot ap1_pieces ap1_mark ap1_byDistance] H → va_D A [oX3 a0 a_least a_next c_deepest c_shallowest c_widest, oX5 ap1 cp1_lanes cp1_positions cp1_room cp1_gap cp1_places cp1_picked ap1_lot ap1_pieces ap1_mark ap1_byDistance] → va_S A s.heap H locs → lv_has ls 4 [(0, .ref a0), (1, .ref ap1), (2, .int n2), (3, .int n3)] → WW H locs 0 0 (F0 m 4 ls []) := by
    intro n
    induction n with
    | zero =>
      intro n2 n3 c_deepest c_shallowest c_widest e2 e_c_deepest e_c_shallowest e_c_widest hlp
      exact absurd hlp (by simp [loop])
    | succ n ih =>
      intro n2 n3 c_deepest c_shallowest c_widest e2 e_c_deepest e_c_shallowest e_c_widest hlp K H locs ls hP hD hS hl
      obtain ⟨x9, hf, hlp⟩ := loop_s hlp
      have hf : f_X3_lastLane_L4 cp1_lanes cp1_positions cp1_picked n2 n3 c_deepest c_shallowest c_widest = some x9 := hf
      unfold f_X3_lastLane_L4 at hf
      have hJ27 : ∀ (n2 : Int32) (n3 : Int32) (c_deepest : Int32) (c_shallowest : Int32) (c_widest : Int32), f_X3_lastLane_L4_J27 n2 n3 c_deepest c_shallowest c_widest cp1_lanes cp1_positions cp1_picked = some x9 → ∀ (H : Heap) (locs : List Loc) (ls : Array Slot), va_P D vwCl [oX3 a0 a_least a_next c_deepest c_shallowest c_widest, oX5 ap1 cp1_lanes cp1_positions cp1_room cp1_gap cp1_places cp1_picked ap1_lot ap1_pieces ap1_mark ap1_byDistance] H → va_D A [oX3 a0 a_least a_next c_deepest c_shallowest c_widest, oX5 ap1 cp1_lanes cp1_positions cp1_room cp1_gap cp1_places cp1_picked ap1_lot ap1_pieces ap1_mark ap1_byDistance] → va_S A s.heap H locs → lv_has ls 4 [(0, .ref a0), (1, .ref ap1), (2, .int n2), (3, .int n3)] → WW H locs 0 0 (F0 m 27 ls []) := by
        intro n2 n3 c_deepest c_shallowest c_widest hf H locs ls hP hD hS hl
        unfold f_X3_lastLane_L4_J27 at hf
        refine (hWW _ _ _ _ _).mpr ?_
        refine lv_iinc (v := (n3 + 1)) (lv' := [(3, .int (n3 + 1)), (0, .ref a0), (1, .ref ap1), (2, .int n2)]) hx hb dX3_lastLane_27 hl (k := 3) rfl rfl (by decide) rfl (fun ls hl => ?_)
        refine lv_goto (tgt := 4) hx hb dX3_lastLane_30 (by decide) ?_
        obtain rfl := Option.some.inj hf
        exact (hWW _ _ _ _ _).mp (ih  _ _ _ _ _ _ _ _ _ hlp K _ _ ls hP hD hS (lv_sub hl [1, 2, 3, 0] rfl))
      refine (hWW _ _ _ _ _).mpr ?_
      refine lv_iload_n hx hb dX3_lastLane_4 rfl (lv_at hl 3 rfl) ?_
      refine lv_aload_n hx hb dX3_lastLane_5 rfl (lv_at hl 1 rfl) ?_
      refine va_get (D := D) (ci := 4) (v := .int cp1_lanes) (C := RX5) (T := TX5) (N := 10) hx hb hts (fun w h => mb (iX5 w h)) hown hK hP 1 rfl rfl 0 (by decide) (hts _ (mb tb_46)) (fun _ h9 => h9) rfl dX3_lastLane_6 ?_
      refine lv_icmp_ge (tgt := 33) hx hb dX3_lastLane_9 (by decide) (fun h1 => ?_) (fun h1 => ?_)
      · have hf := ipos h1 hf
        obtain rfl := Option.some.inj hf
        cases lpx_r hlp
        exact (hWW _ _ _ _ _).mp (K _ _ ls hP hD hS (lv_sub hl [2] rfl))
      · have hf := ineg h1 hf
        refine lv_aload_n hx hb dX3_lastLane_12 rfl (lv_at hl 0 rfl) ?_
        refine lv_aload_n hx hb dX3_lastLane_13 rfl (lv_at hl 1 rfl) ?_
        refine lv_iload_n hx hb dX3_lastLane_14 rfl (lv_at hl 3 rfl) ?_
        obtain ⟨o4, o5, o6, hc3, hf⟩ := ob3 hf
        refine rw_callv (va_runV (As := [.ref ap1, .int n3]) (rest := []) ⟨hx, hb, hml, hown, hts⟩ (k_X3_look l hl0 D cI cJ cZ cS B0 H.size a0 a_least a_next ap1 ap1_lot ap1_pieces ap1_mark ap1_byDistance c_deepest c_shallowest c_widest cp1_lanes cp1_positions cp1_room cp1_gap cp1_places cp1_picked n3 o4 o5 o6 hc3) (cwV 2 hts (gV tb_754 tb_756 ts_21 tb_7 tb_757) rfl rfl rfl (by decide +kernel) ⟨Nat.le_of_ble_eq_true rfl, Nat.le_of_ble_eq_true rfl⟩) ⟨wp_blind, va_recv hK hP (ci := 2) (q0 := 0) rfl rfl, wp_pre (hP.sub [0, 1] rfl) hK (va_D.sub (hD.weaken (fun _ _ _ h9 => hAB _ h9)) [0, 1] rfl rfl) (hBn _ _ hS) (hEn _ _ hS)⟩ rfl rfl hl.1 rfl (lv_room (Nat.le_of_ble_eq_true rfl)) dX3_lastLane_15 ⟨Nat.le_of_ble_eq_true rfl, Nat.le_of_ble_eq_true rfl⟩) hP hD hS hA [oX3 a0 a_least a_next o4 o5 o6, oX5 ap1 cp1_lanes cp1_positions cp1_room cp1_gap cp1_places cp1_picked ap1_lot ap1_pieces ap1_mark ap1_byDistance] 2 [0, 1] [] rfl rfl rfl rfl (by decide +kernel) rfl (fun H locs hP hD hS => ?_)
        refine lv_aload_n hx hb dX3_lastLane_18 rfl (lv_at hl 0 rfl) ?_
        refine va_get (D := D) (ci := 2) (v := .int o4) (C := RX3) (T := TX3) (N := 5) hx hb hts (fun w h => mb (iX3 w h)) hown hK hP 0 rfl rfl 2 (by decide) (hts _ (mb tb_238)) (fun _ h9 => h9) rfl dX3_lastLane_19 ?_
        refine lv_if_le (tgt := 27) hx hb dX3_lastLane_22 (by decide) (fun h7 => ?_) (fun h7 => ?_)
        · have hf := ipos h7 hf
          exact (hWW _ _ _ _ _).mp (hJ27 _ _ _ _ _ hf _ _ ls hP hD hS (lv_sub hl [0, 1, 2, 3] rfl))
        · have hf := ineg h7 hf
          refine lv_iload_n hx hb dX3_lastLane_25 rfl (lv_at hl 3 rfl) ?_
          refine lv_istore_n (lv' := [(2, .int n3), (0, .ref a0), (1, .ref ap1), (3, .int n3)]) hx hb dX3_lastLane_26 rfl hl (by decide) rfl (fun ls hl => ?_)
          exact (hWW _ _ _ _ _).mp (hJ27 _ _ _ _ _ hf _ _ ls hP hD hS (lv_sub hl [1, 2, 0, 3] rfl))
  refine (hWW _ _ _ _ _).mpr ?_
  refine lv_iconst (v := (-1)) hx hb dX3_lastLane_0 (by decide) ?_
  refine lv_istore_n (lv' := [(2, .int (-1)), (0, .ref a0), (1, .ref ap1)]) hx hb dX3_lastLane_1 rfl hl (by decide) rfl (fun ls hl => ?_)
  refine lv_iconst (v := 0) hx hb dX3_lastLane_2 (by decide) ?_
  refine lv_istore_n (lv' := [(3, .int 0), (2, .int (-1)), (0, .ref a0), (1, .ref ap1)]) hx hb dX3_lastLane_3 rfl hl (by decide) rfl (fun ls hl => ?_)
  obtain ⟨m9, c10, c11, c12, hc8, hf⟩ := ob4 hf
  refine (hWW _ _ _ _ _).mp (hL4 fu _ _ _ _ _ _ _ _ _ hc8 (fun H locs ls hP hD hS hl => ?_) _ _ ls hP hD hS (lv_sub hl [2, 3, 1, 0] rfl))
  · refine (hWW _ _ _ _ _).mpr ?_
    refine lv_iload_n hx hb dX3_lastLane_33 rfl (lv_at hl 0 rfl) ?_
    cases hf
    refine W.widen (k := 0) (n := 0) (Nat.le_of_ble_eq_true rfl) (Nat.le_of_ble_eq_true rfl) ?_
    exact W.iret hx hb hr (fun t ht hW => ⟨⟨_, (), rfl, rfl, (by show va_P D vwCl _ t.heap; rw [ht]; exact hP)⟩, hS.F ht⟩) hS.2.2 dX3_lastLane_34
def f_X3_through_L18_J41 (n2 : Int32) (n3 : Int32) (n4 : Int32) (c_deepest : Int32) (c_shallowest : Int32) (c_widest : Int32) (cp1_lanes : Int32) (cp1_positions : Int32) (cp1_gap : Int32) (cp1_picked : Int64) : Option ((Int32 × Int32 × Int32 × Int32 × Int32) ⊕ (Int32 × Int32 × Int32 × Int32)) :=
  some (.inl (n3, n4 + 1, c_deepest, c_shallowest, c_widest))
def f_X3_through_L18 (n2 : Int32) (cp1_lanes : Int32) (cp1_positions : Int32) (cp1_gap : Int32) (cp1_picked : Int64) (n3 : Int32) (n4 : Int32) (c_deepest : Int32) (c_shallowest : Int32) (c_widest : Int32) : Option ((Int32 × Int32 × Int32 × Int32 × Int32) ⊕ (Int32 × Int32 × Int32 × Int32)) :=
  (if n2 < n4 then some (.inr (n3, c_deepest, c_shallowest, c_widest))
  else bnd3 (f_X3_look n4 c_deepest c_shallowest c_widest cp1_positions cp1_picked) (fun o10 o11 o12 =>
  ((if o10 ≤ 0 then f_X3_through_L18_J41 n2 n3 n4 o10 o11 o12 cp1_lanes cp1_positions cp1_gap cp1_picked
  else f_X3_through_L18_J41 n2 (n3 + 1) n4 o10 o11 o12 cp1_lanes cp1_positions cp1_gap cp1_picked))))
def f_X3_through (c_deepest : Int32) (c_shallowest : Int32) (c_widest : Int32) (cp1_lanes : Int32) (cp1_positions : Int32) (cp1_gap : Int32) (cp1_picked : Int64) : Option (Int32 × Int32 × Int32 × Int32) :=
  bnd4 (f_X3_lastLane c_deepest c_shallowest c_widest cp1_lanes cp1_positions cp1_picked) (fun r1 o3 o4 o5 =>
  ((if r1 = (-1) then some (0, o3, o4, o5)
  else (bnd4 (loop (fun z => f_X3_through_L18 r1 cp1_lanes cp1_positions cp1_gap cp1_picked z.1 z.2.1 z.2.2.1 z.2.2.2.1 z.2.2.2.2) fu (0, 0, o3, o4, o5)) fun m15 c16 c17 c18 =>
  (if (m15 - m15 / 2 * 2) = 0 then some (((2 * cp1_gap) * r1) + ((m15 - (m15 - m15 / 2 * 2)) * (cp1_positions + 1)), c16, c17, c18)
  else some ((((2 * cp1_gap) * r1) + ((m15 - (m15 - m15 / 2 * 2)) * (cp1_positions + 1))) + (2 * c16), c16, c17, c18))))))
set_option maxHeartbeats 4000000 in
set_option maxRecDepth 100000 in
theorem k_X3_through (l : Launch) (hl0 : l.stackTraces = false) (D : va_G) (cI cJ cZ cS : ClassId) (B0 : Nat) (sz : Nat) (a0 a_least a_next ap1 ap1_lot ap1_pieces ap1_mark ap1_byDistance : Nat) (c_deepest : Int32) (c_shallowest : Int32) (c_widest : Int32) (cp1_lanes : Int32) (cp1_positions : Int32) (cp1_room : Int32) (cp1_gap : Int32) (cp1_places : Int32) (cp1_picked : Int64) (r9 : Int32) (oc_deepest : Int32) (oc_shallowest : Int32) (oc_widest : Int32)  (hf : f_X3_through c_deepest c_shallowest c_widest cp1_lanes cp1_positions cp1_gap cp1_picked = some (r9, oc_deepest, oc_shallowest, oc_widest)) : Met l yX3_through (wz yX3_through cX3_through 5 (some .int)) ({ frames := 3, cells := 0, slots := 0, locals := 86 }) (va_Pc [.ref a0, .ref ap1] (wp D cI cJ cZ cS B0 [oX3 a0 a_least a_next c_deepest c_shallowest c_widest, oX5 ap1 cp1_lanes cp1_positions cp1_room cp1_gap cp1_places cp1_picked ap1_lot ap1_pieces ap1_mark ap1_byDistance] sz)) (va_Qi (fun (r2 : Int32) (_ : Unit) => r2 = r9) (fun _ t => va_P D vwCl [oX3 a0 a_least a_next oc_deepest oc_shallowest oc_widest, oX5 ap1 cp1_lanes cp1_positions cp1_room cp1_gap cp1_places cp1_picked ap1_lot ap1_pieces ap1_mark ap1_byDistance] t.heap) (va_A [oX3 a0 a_least a_next c_deepest c_shallowest c_widest, oX5 ap1 cp1_lanes cp1_positions cp1_room cp1_gap cp1_places cp1_picked ap1_lot ap1_pieces ap1_mark ap1_byDistance] sz)) 0 0 (va_A [oX3 a0 a_least a_next c_deepest c_shallowest c_widest, oX5 ap1 cp1_lanes cp1_positions cp1_room cp1_gap cp1_places cp1_picked ap1_lot ap1_pieces ap1_mark ap1_byDistance] sz) := by
  refine Met.ofW (cc := cX3_through) (maxL := 5) (ret := (some .int)) (by decide) rfl ?_
  intro p e s m args below meth c s₁ B hml hv
  obtain ⟨rfl, hsz, hP, hK, hD0, hB0, hE⟩ := hv
  subst hsz
  have hx := B.exec
  have hb := B.bytes
  have hr := B.returns
  have hts := atoms_spec (ws := (wz yX3_through cX3_through 5 (some .int))) B.pre
  have hown : s.vm.findClass RX3 = some m.cls := findClass_of_methodNamed B.named
  have hlocks := B.notSynchronized
  have hD := hD0.self (sz := s.heap.size)
  have hAB : ∀ q : Nat, va_A [oX3 a0 a_least a_next c_deepest c_shallowest c_widest, oX5 ap1 cp1_lanes cp1_positions cp1_room cp1_gap cp1_places cp1_picked ap1_lot ap1_pieces ap1_mark ap1_byDistance] s.heap.size q → B0 ≤ q := va_A_B hD0 hB0
  generalize hAe : va_A [oX3 a0 a_least a_next c_deepest c_shallowest c_widest, oX5 ap1 cp1_lanes cp1_positions cp1_room cp1_gap cp1_places cp1_picked ap1_lot ap1_pieces ap1_mark ap1_byDistance] s.heap.size = A at hD hAB ⊢
  have hA : ∀ q : Nat, s.heap.size ≤ q → A q := fun q h => by rw [← hAe]; exact Or.inr h
  have hFa := hA
  have hS : va_S A s.heap s.heap [] := va_S.rf
  have hBn := fun (H : Heap) (locs : List Loc) (h : va_S A s.heap H locs) => Nat.le_trans hB0 h.1
  have hEn := fun (H : Heap) (locs : List Loc) (h : va_S A s.heap H locs) => gE_now hE h hAB
  have hl := lv_entry ([.ref a0, .ref ap1]) (n := 5) (Nat.le_of_ble_eq_true rfl)
  rw [lg_entry_eq]
  generalize (lg_sl ([.ref a0, .ref ap1]) ++ List.replicate (5 - (lg_sl ([.ref a0, .ref ap1])).length) Slot.unset).toArray = ls at hl ⊢
  have hl : lv_has ls 5 [(0, .ref a0), (1, .ref ap1)] := hl
  obtain ⟨H, hHe⟩ : ∃ H : Heap, H = s.heap := ⟨_, rfl⟩
  have hP : va_P D vwCl [oX3 a0 a_least a_next c_deepest c_shallowest c_widest, oX5 ap1 cp1_lanes cp1_positions cp1_room cp1_gap cp1_places cp1_picked ap1_lot ap1_pieces ap1_mark ap1_byDistance] H := by rw [hHe]; exact hP
  have hS : va_S A s.heap H [] := by rw [hHe]; exact hS
  refine W_heq hHe ?_
  unfold f_X3_through at hf
  refine gen_goW (fun WW hWW => ?_)
  have hL18 : ∀ (n : Nat) (n2 : Int32) (n3 : Int32) (n4 : Int32) (c_deepest : Int32) (c_shallowest : Int32) (c_widest : Int32) (e3 : Int32) (e_c_deepest : Int32) (e_c_shallowest : Int32) (e_c_widest : Int32), loop (fun z => f_X3_through_L18 n2 cp1_lanes cp1_positions cp1_gap cp1_picked z.1 z.2.1 z.2.2.1 z.2.2.2.1 z.2.2.2.2) n (n3, n4, c_deepest, c_shallowest, c_widest) = some (e3, e_c_deepest, e_c_shallowest, e_c_widest) → (∀ (H : Heap) (locs : List Loc) (ls : Array Slot), va_P D vwCl [oX3 a0 a_least a_next e_c_deepest e_c_shallowest e_c_widest, oX5 ap1 cp1_lanes cp1_positions cp1_room cp1_gap cp1_places cp1_picked ap1_lot ap1_pieces ap1_mark ap1_byDistance] H → va_D A [oX3 a0 a_least a_next e_c_deepest e_c_shallowest e_c_widest, oX5 ap1 cp1_lanes cp1_positions cp1_room cp1_gap cp1_places cp1_picked ap1_lot ap1_pieces ap1_mark ap1_byDistance] → va_S A s.heap H locs → lv_has ls 5 [(0, .ref a0), (1, .ref ap1), (2, .int n2), (3, .int e3)] → WW H locs 0 0 (F0 m 47 ls [])) → ∀ (H : Heap) (locs : List Loc) (ls : Array Slot), va_P D vwCl [oX3 a0 a_least a_next c_deepest c_shallowest c_widest, oX5 ap1 cp1_lanes cp1_positions cp1_room cp1_gap cp1_places cp1_picked ap1_lot ap1_pieces ap1_mark ap1_byDistance] H → va_D A [oX3 a0 a_least a_next c_deepest c_shallowest c_widest, oX5 ap1 cp1_lanes cp1_positions cp1_room cp1_gap cp1_places cp1_picked ap1_lot ap1_pieces ap1_mark ap1_byDistance] → va_S A s.heap H locs → lv_has ls 5 [(0, .ref a0), (1, .ref ap1), (2, .int n2), (3, .int n3), (4, .int n4)] → WW H locs 0 0 (F0 m 18 ls []) := by
    intro n
    induction n with
    | zero =>
      intro n2 n3 n4 c_deepest c_shallowest c_widest e3 e_c_deepest e_c_shallowest e_c_widest hlp
      exact absurd hlp (by simp [loop])
    | succ n ih =>
      intro n2 n3 n4 c_deepest c_shallowest c_widest e3 e_c_deepest e_c_shallowest e_c_widest hlp K H locs ls hP hD hS hl
      obtain ⟨x9, hf, hlp⟩ := loop_s hlp
      have hf : f_X3_through_L18 n2 cp1_lanes cp1_positions cp1_gap cp1_picked n3 n4 c_deepest c_shallowest c_widest = some x9 := hf
      unfold f_X3_through_L18 at hf
      have hJ41 : ∀ (n3 : Int32) (n4 : Int32) (c_deepest : Int32) (c_shallowest : Int32) (c_widest : Int32), f_X3_through_L18_J41 n2 n3 n4 c_deepest c_shallowest c_widest cp1_lanes cp1_positions cp1_gap cp1_picked = some x9 → ∀ (H : Heap) (locs : List Loc) (ls : Array Slot), va_P D vwCl [oX3 a0 a_least a_next c_deepest c_shallowest c_widest, oX5 ap1 cp1_lanes cp1_positions cp1_room cp1_gap cp1_places cp1_picked ap1_lot ap1_pieces ap1_mark ap1_byDistance] H → va_D A [oX3 a0 a_least a_next c_deepest c_shallowest c_widest, oX5 ap1 cp1_lanes cp1_positions cp1_room cp1_gap cp1_places cp1_picked ap1_lot ap1_pieces ap1_mark ap1_byDistance] → va_S A s.heap H locs → lv_has ls 5 [(0, .ref a0), (1, .ref ap1), (2, .int n2), (3, .int n3), (4, .int n4)] → WW H locs 0 0 (F0 m 41 ls []) := by
        intro n3 n4 c_deepest c_shallowest c_widest hf H locs ls hP hD hS hl
        unfold f_X3_through_L18_J41 at hf
        refine (hWW _ _ _ _ _).mpr ?_
        refine lv_iinc (v := (n4 + 1)) (lv' := [(4, .int (n4 + 1)), (0, .ref a0), (1, .ref ap1), (2, .int n2), (3, .int n3)]) hx hb dX3_through_41 hl (k := 4) rfl rfl (by decide) rfl (fun ls hl => ?_)
        refine lv_goto (tgt := 18) hx hb dX3_through_44 (by decide) ?_
        obtain rfl := Option.some.inj hf
        exact (hWW _ _ _ _ _).mp (ih _ _ _ _ _ _ _ _ _ _ hlp K _ _ ls hP hD hS (lv_sub hl [1, 2, 3, 4, 0] rfl))
      refine (hWW _ _ _ _ _).mpr ?_
      refine lv_iload hx hb dX3_through_18 (lv_at hl 4 rfl) ?_
      refine lv_iload_n hx hb dX3_through_20 rfl (lv_at hl 2 rfl) ?_
      refine lv_icmp_gt (tgt := 47) hx hb dX3_through_21 (by decide) (fun h7 => ?_) (fun h7 => ?_)
      · have hf := ipos h7 hf
        obtain rfl := Option.some.inj hf
        cases lpx_r hlp
        exact (hWW _ _ _ _ _).mp (K _ _ ls hP hD hS (lv_sub hl [0, 1, 2, 3] rfl))
      · have hf := ineg h7 hf
        refine lv_aload_n hx hb dX3_through_24 rfl (lv_at hl 0 rfl) ?_
        refine lv_aload_n hx hb dX3_through_25 rfl (lv_at hl 1 rfl) ?_
        refine lv_iload hx hb dX3_through_26 (lv_at hl 4 rfl) ?_
        obtain ⟨o10, o11, o12, hc9, hf⟩ := ob3 hf
        refine rw_callv (va_runV (As := [.ref ap1, .int n4]) (rest := []) ⟨hx, hb, hml, hown, hts⟩ (k_X3_look l hl0 D cI cJ cZ cS B0 H.size a0 a_least a_next ap1 ap1_lot ap1_pieces ap1_mark ap1_byDistance c_deepest c_shallowest c_widest cp1_lanes cp1_positions cp1_room cp1_gap cp1_places cp1_picked n4 o10 o11 o12 hc9) (cwV 2 hts (gV tb_754 tb_756 ts_21 tb_7 tb_757) rfl rfl rfl (by decide +kernel) ⟨Nat.le_of_ble_eq_true rfl, Nat.le_of_ble_eq_true rfl⟩) ⟨wp_blind, va_recv hK hP (ci := 2) (q0 := 0) rfl rfl, wp_pre (hP.sub [0, 1] rfl) hK (va_D.sub (hD.weaken (fun _ _ _ h9 => hAB _ h9)) [0, 1] rfl rfl) (hBn _ _ hS) (hEn _ _ hS)⟩ rfl rfl hl.1 rfl (lv_room (Nat.le_of_ble_eq_true rfl)) dX3_through_28 ⟨Nat.le_of_ble_eq_true rfl, Nat.le_of_ble_eq_true rfl⟩) hP hD hS hA [oX3 a0 a_least a_next o10 o11 o12, oX5 ap1 cp1_lanes cp1_positions cp1_room cp1_gap cp1_places cp1_picked ap1_lot ap1_pieces ap1_mark ap1_byDistance] 2 [0, 1] [] rfl rfl rfl rfl (by decide +kernel) rfl (fun H locs hP hD hS => ?_)
        refine lv_aload_n hx hb dX3_through_31 rfl (lv_at hl 0 rfl) ?_
        refine va_get (D := D) (ci := 2) (v := .int o10) (C := RX3) (T := TX3) (N := 5) hx hb hts (fun w h => mb (iX3 w h)) hown hK hP 0 rfl rfl 2 (by decide) (hts _ (mb tb_238)) (fun _ h9 => h9) rfl dX3_through_32 ?_
        refine lv_if_le (tgt := 41) hx hb dX3_through_35 (by decide) (fun h13 => ?_) (fun h13 => ?_)
        · have hf := ipos h13 hf
          exact (hWW _ _ _ _ _).mp (hJ41 _ _ _ _ _ hf _ _ ls hP hD hS (lv_sub hl [0, 1, 2, 3, 4] rfl))
        · have hf := ineg h13 hf
          refine lv_iinc (v := (n3 + 1)) (lv' := [(3, .int (n3 + 1)), (0, .ref a0), (1, .ref ap1), (2, .int n2), (4, .int n4)]) hx hb dX3_through_38 hl (k := 3) rfl rfl (by decide) rfl (fun ls hl => ?_)
          exact (hWW _ _ _ _ _).mp (hJ41 _ _ _ _ _ hf _ _ ls hP hD hS (lv_sub hl [1, 2, 3, 0, 4] rfl))
  refine (hWW _ _ _ _ _).mpr ?_
  refine lv_aload_n hx hb dX3_through_0 rfl (lv_at hl 0 rfl) ?_
  refine lv_aload_n hx hb dX3_through_1 rfl (lv_at hl 1 rfl) ?_
  obtain ⟨r1, o3, o4, o5, hc2, hf⟩ := ob4 hf
  refine rw_calli (r := r1) (va_runV (As := [.ref ap1]) (rest := []) ⟨hx, hb, hml, hown, hts⟩ (k_X3_lastLane l hl0 D cI cJ cZ cS B0 H.size a0 a_least a_next ap1 ap1_lot ap1_pieces ap1_mark ap1_byDistance c_deepest c_shallowest c_widest cp1_lanes cp1_positions cp1_room cp1_gap cp1_places cp1_picked r1 o3 o4 o5 hc2) (cwV 1 hts (gV tb_750 tb_752 ts_20 tb_7 tb_753) rfl rfl rfl (by decide +kernel) ⟨Nat.le_of_ble_eq_true rfl, Nat.le_of_ble_eq_true rfl⟩) ⟨wp_blind, va_recv hK hP (ci := 2) (q0 := 0) rfl rfl, wp_pre (hP.sub [0, 1] rfl) hK (va_D.sub (hD.weaken (fun _ _ _ h9 => hAB _ h9)) [0, 1] rfl rfl) (hBn _ _ hS) (hEn _ _ hS)⟩ rfl rfl hl.1 rfl (lv_room (Nat.le_of_ble_eq_true rfl)) dX3_through_2 ⟨Nat.le_of_ble_eq_true rfl, Nat.le_of_ble_eq_true rfl⟩) hP hD hS hA [oX3 a0 a_least a_next o3 o4 o5, oX5 ap1 cp1_lanes cp1_positions cp1_room cp1_gap cp1_places cp1_picked ap1_lot ap1_pieces ap1_mark ap1_byDistance] 2 [0, 1] [] rfl rfl rfl rfl (by decide +kernel) rfl (fun H locs hP hD hS => ?_)
  refine lv_istore_n (lv' := [(2, .int r1), (0, .ref a0), (1, .ref ap1)]) hx hb dX3_through_5 rfl hl (by decide) rfl (fun ls hl => ?_)
  refine lv_iload_n hx hb dX3_through_6 rfl (lv_at hl 0 rfl) ?_
  refine lv_iconst (v := (-1)) hx hb dX3_through_7 (by decide) ?_
  refine lv_icmp_ne (tgt := 13) hx hb dX3_through_8 (by decide) (fun h6 => ?_) (fun h6 => ?_)
  · have hf := ineg h6 hf
    refine lv_iconst (v := 0) hx hb dX3_through_13 (by decide) ?_
    refine lv_istore_n (lv' := [(3, .int 0), (2, .int r1), (0, .ref a0), (1, .ref ap1)]) hx hb dX3_through_14 rfl hl (by decide) rfl (fun ls hl => ?_)
    refine lv_iconst (v := 0) hx hb dX3_through_15 (by decide) ?_
    refine lv_istore (lv' := [(4, .int 0), (3, .int 0), (2, .int r1), (0, .ref a0), (1, .ref ap1)]) hx hb dX3_through_16 hl (by decide) rfl (fun ls hl => ?_)
    obtain ⟨m15, c16, c17, c18, hc14, hf⟩ := ob4 hf
    refine (hWW _ _ _ _ _).mp (hL18 fu _ _ _ _ _ _ _ _ _ _ hc14 (fun H locs ls hP hD hS hl => ?_) _ _ ls hP hD hS (lv_sub hl [3, 4, 2, 1, 0] rfl))
    · refine (hWW _ _ _ _ _).mpr ?_
      refine lv_iconst (v := 2) hx hb dX3_through_47 (by decide) ?_
      refine lv_aload_n hx hb dX3_through_48 rfl (lv_at hl 1 rfl) ?_
      refine va_get (D := D) (ci := 4) (v := .int cp1_gap) (C := RX5) (T := TX5) (N := 10) hx hb hts (fun w h => mb (iX5 w h)) hown hK hP 1 rfl rfl 3 (by decide) (hts _ (mb tb_52)) (fun _ h9 => h9) rfl dX3_through_49 ?_
      refine lv_imul hx hb dX3_through_52 ?_
      refine lv_iload_n hx hb dX3_through_53 rfl (lv_at hl 2 rfl) ?_
      refine lv_imul hx hb dX3_through_54 ?_
      refine lv_iload_n hx hb dX3_through_55 rfl (lv_at hl 3 rfl) ?_
      refine lv_iload_n hx hb dX3_through_56 rfl (lv_at hl 3 rfl) ?_
      refine lv_iconst (v := 2) hx hb dX3_through_57 (by decide) ?_
      refine lv_irem hx hb dX3_through_58 (by decide) ?_
      refine lv_isub hx hb dX3_through_59 ?_
      refine lv_aload_n hx hb dX3_through_60 rfl (lv_at hl 1 rfl) ?_
      refine va_get (D := D) (ci := 4) (v := .int cp1_positions) (C := RX5) (T := TX5) (N := 10) hx hb hts (fun w h => mb (iX5 w h)) hown hK hP 1 rfl rfl 1 (by decide) (hts _ (mb tb_48)) (fun _ h9 => h9) rfl dX3_through_61 ?_
      refine lv_iconst (v := 1) hx hb dX3_through_64 (by decide) ?_
      refine lv_iadd hx hb dX3_through_65 ?_
      refine lv_imul hx hb dX3_through_66 ?_
      refine lv_iadd hx hb dX3_through_67 ?_
      refine lv_istore (lv' := [(4, .int (((2 * cp1_gap) * r1) + ((m15 - (m15 - m15 / 2 * 2)) * (cp1_positions + 1)))), (0, .ref a0), (1, .ref ap1), (2, .int r1), (3, .int m15)]) hx hb dX3_through_68 hl (by decide) rfl (fun ls hl => ?_)
      refine lv_iload_n hx hb dX3_through_70 rfl (lv_at hl 4 rfl) ?_
      refine lv_iconst (v := 2) hx hb dX3_through_71 (by decide) ?_
      refine lv_irem hx hb dX3_through_72 (by decide) ?_
      refine lv_if_ne (tgt := 81) hx hb dX3_through_73 (by decide) (fun h19 => ?_) (fun h19 => ?_)
      · have hf := ineg h19 hf
        refine lv_iload hx hb dX3_through_81 (lv_at hl 0 rfl) ?_
        refine lv_iconst (v := 2) hx hb dX3_through_83 (by decide) ?_
        refine lv_aload_n hx hb dX3_through_84 rfl (lv_at hl 1 rfl) ?_
        refine va_get (D := D) (ci := 2) (v := .int c16) (C := RX3) (T := TX3) (N := 5) hx hb hts (fun w h => mb (iX3 w h)) hown hK hP 0 rfl rfl 2 (by decide) (hts _ (mb tb_238)) (fun _ h9 => h9) rfl dX3_through_85 ?_
        refine lv_imul hx hb dX3_through_88 ?_
        refine lv_iadd hx hb dX3_through_89 ?_
        cases hf
        refine W.widen (k := 0) (n := 0) (Nat.le_of_ble_eq_true rfl) (Nat.le_of_ble_eq_true rfl) ?_
        exact W.iret hx hb hr (fun t ht hW => ⟨⟨_, (), rfl, rfl, (by show va_P D vwCl _ t.heap; rw [ht]; exact hP)⟩, hS.F ht⟩) hS.2.2 dX3_through_90
      · have hf := ipos h19 hf
        refine lv_iload hx hb dX3_through_76 (lv_at hl 0 rfl) ?_
        refine lv_goto (tgt := 90) hx hb dX3_through_78 (by decide) ?_
        cases hf
        refine W.widen (k := 0) (n := 0) (Nat.le_of_ble_eq_true rfl) (Nat.le_of_ble_eq_true rfl) ?_
        exact W.iret hx hb hr (fun t ht hW => ⟨⟨_, (), rfl, rfl, (by show va_P D vwCl _ t.heap; rw [ht]; exact hP)⟩, hS.F ht⟩) hS.2.2 dX3_through_90
  · have hf := ipos h6 hf
    refine lv_iconst (v := 0) hx hb dX3_through_11 (by decide) ?_
    cases hf
    refine W.widen (k := 0) (n := 0) (Nat.le_of_ble_eq_true rfl) (Nat.le_of_ble_eq_true rfl) ?_
    exact W.iret hx hb hr (fun t ht hW => ⟨⟨_, (), rfl, rfl, (by show va_P D vwCl _ t.heap; rw [ht]; exact hP)⟩, hS.F ht⟩) hS.2.2 dX3_through_12
def f_X3_back_L25 (n2 : Int32) (cp1_lanes : Int32) (cp1_positions : Int32) (cp1_gap : Int32) (cp1_picked : Int64) (n3 : Int32) (n4 : Int32) (c_deepest : Int32) (c_shallowest : Int32) (c_widest : Int32) : Option ((Int32 × Int32 × Int32 × Int32 × Int32) ⊕ (Int32 × Int32 × Int32 × Int32)) :=
  (if n2 < n4 then some (.inr (n3, c_deepest, c_shallowest, c_widest))
  else bnd3 (f_X3_look n4 c_deepest c_shallowest c_widest cp1_positions cp1_picked) (fun o10 o11 o12 =>
  (some (.inl (n3 + (2 * o10), n4 + 1, o10, o11, o12)))))
def f_X3_back (c_deepest : Int32) (c_shallowest : Int32) (c_widest : Int32) (cp1_lanes : Int32) (cp1_positions : Int32) (cp1_gap : Int32) (cp1_picked : Int64) : Option (Int32 × Int32 × Int32 × Int32) :=
  bnd4 (f_X3_lastLane c_deepest c_shallowest c_widest cp1_lanes cp1_positions cp1_picked) (fun r1 o3 o4 o5 =>
  ((if r1 = (-1) then some (0, o3, o4, o5)
  else (bnd4 (loop (fun z => f_X3_back_L25 r1 cp1_lanes cp1_positions cp1_gap cp1_picked z.1 z.2.1 z.2.2.1 z.2.2.2.1 z.2.2.2.2) fu ((2 * cp1_gap) * r1, 0, o3, o4, o5)) fun m14 c15 c16 c17 =>
  some (m14, c15, c16, c17)))))
set_option maxHeartbeats 4000000 in
set_option maxRecDepth 100000 in
theorem k_X3_back (l : Launch) (hl0 : l.stackTraces = false) (D : va_G) (cI cJ cZ cS : ClassId) (B0 : Nat) (sz : Nat) (a0 a_least a_next ap1 ap1_lot ap1_pieces ap1_mark ap1_byDistance : Nat) (c_deepest : Int32) (c_shallowest : Int32) (c_widest : Int32) (cp1_lanes : Int32) (cp1_positions : Int32) (cp1_room : Int32) (cp1_gap : Int32) (cp1_places : Int32) (cp1_picked : Int64) (r9 : Int32) (oc_deepest : Int32) (oc_shallowest : Int32) (oc_widest : Int32)  (hf : f_X3_back c_deepest c_shallowest c_widest cp1_lanes cp1_positions cp1_gap cp1_picked = some (r9, oc_deepest, oc_shallowest, oc_widest)) : Met l yX3_back (wz yX3_back cX3_back 5 (some .int)) ({ frames := 3, cells := 0, slots := 0, locals := 86 }) (va_Pc [.ref a0, .ref ap1] (wp D cI cJ cZ cS B0 [oX3 a0 a_least a_next c_deepest c_shallowest c_widest, oX5 ap1 cp1_lanes cp1_positions cp1_room cp1_gap cp1_places cp1_picked ap1_lot ap1_pieces ap1_mark ap1_byDistance] sz)) (va_Qi (fun (r2 : Int32) (_ : Unit) => r2 = r9) (fun _ t => va_P D vwCl [oX3 a0 a_least a_next oc_deepest oc_shallowest oc_widest, oX5 ap1 cp1_lanes cp1_positions cp1_room cp1_gap cp1_places cp1_picked ap1_lot ap1_pieces ap1_mark ap1_byDistance] t.heap) (va_A [oX3 a0 a_least a_next c_deepest c_shallowest c_widest, oX5 ap1 cp1_lanes cp1_positions cp1_room cp1_gap cp1_places cp1_picked ap1_lot ap1_pieces ap1_mark ap1_byDistance] sz)) 0 0 (va_A [oX3 a0 a_least a_next c_deepest c_shallowest c_widest, oX5 ap1 cp1_lanes cp1_positions cp1_room cp1_gap cp1_places cp1_picked ap1_lot ap1_pieces ap1_mark ap1_byDistance] sz) := by
  refine Met.ofW (cc := cX3_back) (maxL := 5) (ret := (some .int)) (by decide) rfl ?_
  intro p e s m args below meth c s₁ B hml hv
  obtain ⟨rfl, hsz, hP, hK, hD0, hB0, hE⟩ := hv
  subst hsz
  have hx := B.exec
  have hb := B.bytes
  have hr := B.returns
  have hts := atoms_spec (ws := (wz yX3_back cX3_back 5 (some .int))) B.pre
  have hown : s.vm.findClass RX3 = some m.cls := findClass_of_methodNamed B.named
  have hlocks := B.notSynchronized
  have hD := hD0.self (sz := s.heap.size)
  have hAB : ∀ q : Nat, va_A [oX3 a0 a_least a_next c_deepest c_shallowest c_widest, oX5 ap1 cp1_lanes cp1_positions cp1_room cp1_gap cp1_places cp1_picked ap1_lot ap1_pieces ap1_mark ap1_byDistance] s.heap.size q → B0 ≤ q := va_A_B hD0 hB0
  generalize hAe : va_A [oX3 a0 a_least a_next c_deepest c_shallowest c_widest, oX5 ap1 cp1_lanes cp1_positions cp1_room cp1_gap cp1_places cp1_picked ap1_lot ap1_pieces ap1_mark ap1_byDistance] s.heap.size = A at hD hAB ⊢
  have hA : ∀ q : Nat, s.heap.size ≤ q → A q := fun q h => by rw [← hAe]; exact Or.inr h
  have hFa := hA
  have hS : va_S A s.heap s.heap [] := va_S.rf
  have hBn := fun (H : Heap) (locs : List Loc) (h : va_S A s.heap H locs) => Nat.le_trans hB0 h.1
  have hEn := fun (H : Heap) (locs : List Loc) (h : va_S A s.heap H locs) => gE_now hE h hAB
  have hl := lv_entry ([.ref a0, .ref ap1]) (n := 5) (Nat.le_of_ble_eq_true rfl)
  rw [lg_entry_eq]
  generalize (lg_sl ([.ref a0, .ref ap1]) ++ List.replicate (5 - (lg_sl ([.ref a0, .ref ap1])).length) Slot.unset).toArray = ls at hl ⊢
  have hl : lv_has ls 5 [(0, .ref a0), (1, .ref ap1)] := hl
  obtain ⟨H, hHe⟩ : ∃ H : Heap, H = s.heap := ⟨_, rfl⟩
  have hP : va_P D vwCl [oX3 a0 a_least a_next c_deepest c_shallowest c_widest, oX5 ap1 cp1_lanes cp1_positions cp1_room cp1_gap cp1_places cp1_picked ap1_lot ap1_pieces ap1_mark ap1_byDistance] H := by rw [hHe]; exact hP
  have hS : va_S A s.heap H [] := by rw [hHe]; exact hS
  refine W_heq hHe ?_
  unfold f_X3_back at hf
  refine gen_goW (fun WW hWW => ?_)
  have hL25 : ∀ (n : Nat) (n2 : Int32) (n3 : Int32) (n4 : Int32) (c_deepest : Int32) (c_shallowest : Int32) (c_widest : Int32) (e3 : Int32) (e_c_deepest : Int32) (e_c_shallowest : Int32) (e_c_widest : Int32), loop (fun z => f_X3_back_L25 n2 cp1_lanes cp1_positions cp1_gap cp1_picked z.1 z.2.1 z.2.2.1 z.2.2.2.1 z.2.2.2.2) n (n3, n4, c_deepest, c_shallowest, c_widest) = some (e3, e_c_deepest, e_c_shallowest, e_c_widest) → (∀ (H : Heap) (locs : List Loc) (ls : Array Slot), va_P D vwCl [oX3 a0 a_least a_next e_c_deepest e_c_shallowest e_c_widest, oX5 ap1 cp1_lanes cp1_positions cp1_room cp1_gap cp1_places cp1_picked ap1_lot ap1_pieces ap1_mark ap1_byDistance] H → va_D A [oX3 a0 a_least a_next e_c_deepest e_c_shallowest e_c_widest, oX5 ap1 cp1_lanes cp1_positions cp1_room cp1_gap cp1_places cp1_picked ap1_lot ap1_pieces ap1_mark ap1_byDistance] → va_S A s.heap H locs → lv_has ls 5 [(3, .int e3)] → WW H locs 0 0 (F0 m 53 ls [])) → ∀ (H : Heap) (locs : List Loc) (ls : Array Slot), va_P D vwCl [oX3 a0 a_least a_next c_deepest c_shallowest c_widest, oX5 ap1 cp1_lanes cp1_positions cp1_room cp1_gap cp1_places cp1_picked ap1_lot ap1_pieces ap1_mark ap1_byDistance] H → va_D A [oX3 a0 a_least a_next c_deepest c_shallowest c_widest, oX5 ap1 cp1_lanes cp1_positions cp1_room cp1_gap cp1_places cp1_picked ap1_lot ap1_pieces ap1_mark ap1_byDistance] → va_S A s.heap H locs → lv_has ls 5 [(0, .ref a0), (1, .ref ap1), (2, .int n2), (3, .int n3), (4, .int n4)] → WW H locs 0 0 (F0 m 25 ls []) := by
    intro n
    induction n with
    | zero =>
      intro n2 n3 n4 c_deepest c_shallowest c_widest e3 e_c_deepest e_c_shallowest e_c_widest hlp
      exact absurd hlp (by simp [loop])
    | succ n ih =>
      intro n2 n3 n4 c_deepest c_shallowest c_widest e3 e_c_deepest e_c_shallowest e_c_widest hlp K H locs ls hP hD hS hl
      obtain ⟨x9, hf, hlp⟩ := loop_s hlp
      have hf : f_X3_back_L25 n2 cp1_lanes cp1_positions cp1_gap cp1_picked n3 n4 c_deepest c_shallowest c_widest = some x9 := hf
      unfold f_X3_back_L25 at hf
      refine (hWW _ _ _ _ _).mpr ?_
      refine lv_iload hx hb dX3_back_25 (lv_at hl 4 rfl) ?_
      refine lv_iload_n hx hb dX3_back_27 rfl (lv_at hl 2 rfl) ?_
      refine lv_icmp_gt (tgt := 53) hx hb dX3_back_28 (by decide) (fun h7 => ?_) (fun h7 => ?_)
      · have hf := ipos h7 hf
        obtain rfl := Option.some.inj hf
        cases lpx_r hlp
        exact (hWW _ _ _ _ _).mp (K _ _ ls hP hD hS (lv_sub hl [3] rfl))
      · have hf := ineg h7 hf
        refine lv_aload_n hx hb dX3_back_31 rfl (lv_at hl 0 rfl) ?_
        refine lv_aload_n hx hb dX3_back_32 rfl (lv_at hl 1 rfl) ?_
        refine lv_iload hx hb dX3_back_33 (lv_at hl 4 rfl) ?_
        obtain ⟨o10, o11, o12, hc9, hf⟩ := ob3 hf
        refine rw_callv (va_runV (As := [.ref ap1, .int n4]) (rest := []) ⟨hx, hb, hml, hown, hts⟩ (k_X3_look l hl0 D cI cJ cZ cS B0 H.size a0 a_least a_next ap1 ap1_lot ap1_pieces ap1_mark ap1_byDistance c_deepest c_shallowest c_widest cp1_lanes cp1_positions cp1_room cp1_gap cp1_places cp1_picked n4 o10 o11 o12 hc9) (cwV 2 hts (gV tb_754 tb_756 ts_21 tb_7 tb_757) rfl rfl rfl (by decide +kernel) ⟨Nat.le_of_ble_eq_true rfl, Nat.le_of_ble_eq_true rfl⟩) ⟨wp_blind, va_recv hK hP (ci := 2) (q0 := 0) rfl rfl, wp_pre (hP.sub [0, 1] rfl) hK (va_D.sub (hD.weaken (fun _ _ _ h9 => hAB _ h9)) [0, 1] rfl rfl) (hBn _ _ hS) (hEn _ _ hS)⟩ rfl rfl hl.1 rfl (lv_room (Nat.le_of_ble_eq_true rfl)) dX3_back_35 ⟨Nat.le_of_ble_eq_true rfl, Nat.le_of_ble_eq_true rfl⟩) hP hD hS hA [oX3 a0 a_least a_next o10 o11 o12, oX5 ap1 cp1_lanes cp1_positions cp1_room cp1_gap cp1_places cp1_picked ap1_lot ap1_pieces ap1_mark ap1_byDistance] 2 [0, 1] [] rfl rfl rfl rfl (by decide +kernel) rfl (fun H locs hP hD hS => ?_)
        refine lv_iload_n hx hb dX3_back_38 rfl (lv_at hl 3 rfl) ?_
        refine lv_iconst (v := 2) hx hb dX3_back_39 (by decide) ?_
        refine lv_aload_n hx hb dX3_back_40 rfl (lv_at hl 0 rfl) ?_
        refine va_get (D := D) (ci := 2) (v := .int o10) (C := RX3) (T := TX3) (N := 5) hx hb hts (fun w h => mb (iX3 w h)) hown hK hP 0 rfl rfl 2 (by decide) (hts _ (mb tb_238)) (fun _ h9 => h9) rfl dX3_back_41 ?_
        refine lv_imul hx hb dX3_back_44 ?_
        refine lv_iadd hx hb dX3_back_45 ?_
        refine lv_istore_n (lv' := [(3, .int (n3 + (2 * o10))), (0, .ref a0), (1, .ref ap1), (2, .int n2), (4, .int n4)]) hx hb dX3_back_46 rfl hl (by decide) rfl (fun ls hl => ?_)
        refine lv_iinc (v := (n4 + 1)) (lv' := [(4, .int (n4 + 1)), (3, .int (n3 + (2 * o10))), (0, .ref a0), (1, .ref ap1), (2, .int n2)]) hx hb dX3_back_47 hl (k := 4) rfl rfl (by decide) rfl (fun ls hl => ?_)
        refine lv_goto (tgt := 25) hx hb dX3_back_50 (by decide) ?_
        obtain rfl := Option.some.inj hf
        exact (hWW _ _ _ _ _).mp (ih _ _ _ _ _ _ _ _ _ _ hlp K _ _ ls hP hD hS (lv_sub hl [2, 3, 4, 1, 0] rfl))
  refine (hWW _ _ _ _ _).mpr ?_
  refine lv_aload_n hx hb dX3_back_0 rfl (lv_at hl 0 rfl) ?_
  refine lv_aload_n hx hb dX3_back_1 rfl (lv_at hl 1 rfl) ?_
  obtain ⟨r1, o3, o4, o5, hc2, hf⟩ := ob4 hf
  refine rw_calli (r := r1) (va_runV (As := [.ref ap1]) (rest := []) ⟨hx, hb, hml, hown, hts⟩ (k_X3_lastLane l hl0 D cI cJ cZ cS B0 H.size a0 a_least a_next ap1 ap1_lot ap1_pieces ap1_mark ap1_byDistance c_deepest c_shallowest c_widest cp1_lanes cp1_positions cp1_room cp1_gap cp1_places cp1_picked r1 o3 o4 o5 hc2) (cwV 1 hts (gV tb_750 tb_752 ts_20 tb_7 tb_753) rfl rfl rfl (by decide +kernel) ⟨Nat.le_of_ble_eq_true rfl, Nat.le_of_ble_eq_true rfl⟩) ⟨wp_blind, va_recv hK hP (ci := 2) (q0 := 0) rfl rfl, wp_pre (hP.sub [0, 1] rfl) hK (va_D.sub (hD.weaken (fun _ _ _ h9 => hAB _ h9)) [0, 1] rfl rfl) (hBn _ _ hS) (hEn _ _ hS)⟩ rfl rfl hl.1 rfl (lv_room (Nat.le_of_ble_eq_true rfl)) dX3_back_2 ⟨Nat.le_of_ble_eq_true rfl, Nat.le_of_ble_eq_true rfl⟩) hP hD hS hA [oX3 a0 a_least a_next o3 o4 o5, oX5 ap1 cp1_lanes cp1_positions cp1_room cp1_gap cp1_places cp1_picked ap1_lot ap1_pieces ap1_mark ap1_byDistance] 2 [0, 1] [] rfl rfl rfl rfl (by decide +kernel) rfl (fun H locs hP hD hS => ?_)
  refine lv_istore_n (lv' := [(2, .int r1), (0, .ref a0), (1, .ref ap1)]) hx hb dX3_back_5 rfl hl (by decide) rfl (fun ls hl => ?_)
  refine lv_iload_n hx hb dX3_back_6 rfl (lv_at hl 0 rfl) ?_
  refine lv_iconst (v := (-1)) hx hb dX3_back_7 (by decide) ?_
  refine lv_icmp_ne (tgt := 13) hx hb dX3_back_8 (by decide) (fun h6 => ?_) (fun h6 => ?_)
  · have hf := ineg h6 hf
    refine lv_iconst (v := 2) hx hb dX3_back_13 (by decide) ?_
    refine lv_aload_n hx hb dX3_back_14 rfl (lv_at hl 2 rfl) ?_
    refine va_get (D := D) (ci := 4) (v := .int cp1_gap) (C := RX5) (T := TX5) (N := 10) hx hb hts (fun w h => mb (iX5 w h)) hown hK hP 1 rfl rfl 3 (by decide) (hts _ (mb tb_52)) (fun _ h9 => h9) rfl dX3_back_15 ?_
    refine lv_imul hx hb dX3_back_18 ?_
    refine lv_iload_n hx hb dX3_back_19 rfl (lv_at hl 0 rfl) ?_
    refine lv_imul hx hb dX3_back_20 ?_
    refine lv_istore_n (lv' := [(3, .int ((2 * cp1_gap) * r1)), (2, .int r1), (0, .ref a0), (1, .ref ap1)]) hx hb dX3_back_21 rfl hl (by decide) rfl (fun ls hl => ?_)
    refine lv_iconst (v := 0) hx hb dX3_back_22 (by decide) ?_
    refine lv_istore (lv' := [(4, .int 0), (3, .int ((2 * cp1_gap) * r1)), (2, .int r1), (0, .ref a0), (1, .ref ap1)]) hx hb dX3_back_23 hl (by decide) rfl (fun ls hl => ?_)
    obtain ⟨m14, c15, c16, c17, hc13, hf⟩ := ob4 hf
    refine (hWW _ _ _ _ _).mp (hL25 fu _ _ _ _ _ _ _ _ _ _ hc13 (fun H locs ls hP hD hS hl => ?_) _ _ ls hP hD hS (lv_sub hl [3, 4, 2, 1, 0] rfl))
    · refine (hWW _ _ _ _ _).mpr ?_
      refine lv_iload_n hx hb dX3_back_53 rfl (lv_at hl 0 rfl) ?_
      cases hf
      refine W.widen (k := 0) (n := 0) (Nat.le_of_ble_eq_true rfl) (Nat.le_of_ble_eq_true rfl) ?_
      exact W.iret hx hb hr (fun t ht hW => ⟨⟨_, (), rfl, rfl, (by show va_P D vwCl _ t.heap; rw [ht]; exact hP)⟩, hS.F ht⟩) hS.2.2 dX3_back_54
  · have hf := ipos h6 hf
    refine lv_iconst (v := 0) hx hb dX3_back_11 (by decide) ?_
    cases hf
    refine W.widen (k := 0) (n := 0) (Nat.le_of_ble_eq_true rfl) (Nat.le_of_ble_eq_true rfl) ?_
    exact W.iret hx hb hr (fun t ht hW => ⟨⟨_, (), rfl, rfl, (by show va_P D vwCl _ t.heap; rw [ht]; exact hP)⟩, hS.F ht⟩) hS.2.2 dX3_back_12
def f_X3_takeNext_L2 (c_next : Nat → Int32) (n1 : Int32) (c_least : Nat → Int32) : Option ((Int32 × (Nat → Int32)) ⊕ (Nat → Int32)) :=
  (if 5 ≤ n1 then some (.inr c_least)
  else gd n1 5 (gd n1 5 (some (.inl (n1 + 1, upd c_least n1.toNatClampNeg (c_next n1.toNatClampNeg))))))
def f_X3_takeNext (c_least : Nat → Int32) (c_next : Nat → Int32) : Option ((Nat → Int32)) :=
  (bnd1 (loop (fun z => f_X3_takeNext_L2 c_next z.1 z.2) fu (0, c_least)) fun c5 =>
  some c5)
set_option maxHeartbeats 4000000 in
set_option maxRecDepth 100000 in
theorem k_X3_takeNext (l : Launch) (hl0 : l.stackTraces = false) (D : va_G) (cI cJ cZ cS : ClassId) (B0 : Nat) (sz : Nat) (a0 a_least a_next : Nat) (c_deepest : Int32) (c_shallowest : Int32) (c_widest : Int32) (c_least : Nat → Int32) (c_next : Nat → Int32) (oc_least : Nat → Int32)  (hf : f_X3_takeNext c_least c_next = some oc_least) : Met l yX3_takeNext (wz yX3_takeNext cX3_takeNext 2 none) ({ frames := 0, cells := 0, slots := 0, locals := 0 }) (va_Pc [.ref a0] (wp D cI cJ cZ cS B0 [oX3 a0 a_least a_next c_deepest c_shallowest c_widest, rI cI a_least 5 c_least, rI cI a_next 5 c_next] sz)) (va_Qv (fun (_ : Unit) => True) (fun _ t => va_P D vwCl [oX3 a0 a_least a_next c_deepest c_shallowest c_widest, rI cI a_least 5 oc_least, rI cI a_next 5 c_next] t.heap) (va_A [oX3 a0 a_least a_next c_deepest c_shallowest c_widest, rI cI a_least 5 c_least, rI cI a_next 5 c_next] sz)) 0 0 (va_A [oX3 a0 a_least a_next c_deepest c_shallowest c_widest, rI cI a_least 5 c_least, rI cI a_next 5 c_next] sz) := by
  refine Met.ofW (cc := cX3_takeNext) (maxL := 2) (ret := none) (by decide) rfl ?_
  intro p e s m args below meth c s₁ B hml hv
  obtain ⟨rfl, hsz, hP, hK, hD0, hB0, hE⟩ := hv
  subst hsz
  have hx := B.exec
  have hb := B.bytes
  have hr := B.returns
  have hts := atoms_spec (ws := (wz yX3_takeNext cX3_takeNext 2 none)) B.pre
  have hown : s.vm.findClass RX3 = some m.cls := findClass_of_methodNamed B.named
  have hlocks := B.notSynchronized
  have hD := hD0.self (sz := s.heap.size)
  have hAB : ∀ q : Nat, va_A [oX3 a0 a_least a_next c_deepest c_shallowest c_widest, rI cI a_least 5 c_least, rI cI a_next 5 c_next] s.heap.size q → B0 ≤ q := va_A_B hD0 hB0
  generalize hAe : va_A [oX3 a0 a_least a_next c_deepest c_shallowest c_widest, rI cI a_least 5 c_least, rI cI a_next 5 c_next] s.heap.size = A at hD hAB ⊢
  have hA : ∀ q : Nat, s.heap.size ≤ q → A q := fun q h => by rw [← hAe]; exact Or.inr h
  have hFa := hA
  have hS : va_S A s.heap s.heap [] := va_S.rf
  have hBn := fun (H : Heap) (locs : List Loc) (h : va_S A s.heap H locs) => Nat.le_trans hB0 h.1
  have hEn := fun (H : Heap) (locs : List Loc) (h : va_S A s.heap H locs) => gE_now hE h hAB
  have hl := lv_entry ([.ref a0]) (n := 2) (Nat.le_of_ble_eq_true rfl)
  rw [lg_entry_eq]
  generalize (lg_sl ([.ref a0]) ++ List.replicate (2 - (lg_sl ([.ref a0])).length) Slot.unset).toArray = ls at hl ⊢
  have hl : lv_has ls 2 [(0, .ref a0)] := hl
  obtain ⟨H, hHe⟩ : ∃ H : Heap, H = s.heap := ⟨_, rfl⟩
  have hP : va_P D vwCl [oX3 a0 a_least a_next c_deepest c_shallowest c_widest, rI cI a_least 5 c_least, rI cI a_next 5 c_next] H := by rw [hHe]; exact hP
  have hS : va_S A s.heap H [] := by rw [hHe]; exact hS
  refine W_heq hHe ?_
  unfold f_X3_takeNext at hf
  refine gen_goW (fun WW hWW => ?_)
  have hL2 : ∀ (n : Nat) (n1 : Int32) (c_least : Nat → Int32) (e_c_least : Nat → Int32), loop (fun z => f_X3_takeNext_L2 c_next z.1 z.2) n (n1, c_least) = some e_c_least → (∀ (H : Heap) (locs : List Loc) (ls : Array Slot), va_P D vwCl [oX3 a0 a_least a_next c_deepest c_shallowest c_widest, rI cI a_least 5 e_c_least, rI cI a_next 5 c_next] H → va_D A [oX3 a0 a_least a_next c_deepest c_shallowest c_widest, rI cI a_least 5 e_c_least, rI cI a_next 5 c_next] → va_S A s.heap H locs → lv_has ls 2 [] → WW H locs 0 0 (F0 m 25 ls [])) → ∀ (H : Heap) (locs : List Loc) (ls : Array Slot), va_P D vwCl [oX3 a0 a_least a_next c_deepest c_shallowest c_widest, rI cI a_least 5 c_least, rI cI a_next 5 c_next] H → va_D A [oX3 a0 a_least a_next c_deepest c_shallowest c_widest, rI cI a_least 5 c_least, rI cI a_next 5 c_next] → va_S A s.heap H locs → lv_has ls 2 [(0, .ref a0), (1, .int n1)] → WW H locs 0 0 (F0 m 2 ls []) := by
    intro n
    induction n with
    | zero =>
      intro n1 c_least e_c_least hlp
      exact absurd hlp (by simp [loop])
    | succ n ih =>
      intro n1 c_least e_c_least hlp K H locs ls hP hD hS hl
      obtain ⟨x9, hf, hlp⟩ := loop_s hlp
      have hf : f_X3_takeNext_L2 c_next n1 c_least = some x9 := hf
      unfold f_X3_takeNext_L2 at hf
      refine (hWW _ _ _ _ _).mpr ?_
      refine lv_iload_n hx hb dX3_takeNext_2 rfl (lv_at hl 1 rfl) ?_
      refine lv_iconst (v := 5) hx hb dX3_takeNext_3 (by decide) ?_
      refine lv_icmp_ge (tgt := 25) hx hb dX3_takeNext_4 (by decide) (fun h1 => ?_) (fun h1 => ?_)
      · have hf := ipos h1 hf
        obtain rfl := Option.some.inj hf
        cases lpx_r hlp
        exact (hWW _ _ _ _ _).mp (K _ _ ls hP hD hS (lv_sub hl [] rfl))
      · have hf := ineg h1 hf
        refine lv_aload_n hx hb dX3_takeNext_7 rfl (lv_at hl 0 rfl) ?_
        refine va_get (D := D) (ci := 2) (v := .ref a_least) (C := RX3) (T := TX3) (N := 5) hx hb hts (fun w h => mb (iX3 w h)) hown hK hP 0 rfl rfl 0 (by decide) (hts _ (mb tb_236)) (fun _ h9 => h9) rfl dX3_takeNext_8 ?_
        refine lv_iload_n hx hb dX3_takeNext_11 rfl (lv_at hl 1 rfl) ?_
        refine lv_aload_n hx hb dX3_takeNext_12 rfl (lv_at hl 0 rfl) ?_
        refine va_get (D := D) (ci := 2) (v := .ref a_next) (C := RX3) (T := TX3) (N := 5) hx hb hts (fun w h => mb (iX3 w h)) hown hK hP 0 rfl rfl 1 (by decide) (hts _ (mb tb_237)) (fun _ h9 => h9) rfl dX3_takeNext_13 ?_
        refine lv_iload_n hx hb dX3_takeNext_16 rfl (lv_at hl 1 rfl) ?_
        obtain ⟨h2, hf⟩ := ob_d hf
        refine va_iald hx hb hK hP 2 0 rfl rfl h2 dX3_takeNext_17 ?_
        obtain ⟨h3, hf⟩ := ob_d hf
        refine va_iast hx hb hK hP hD hS 1 0 rfl rfl h3 dX3_takeNext_18 (fun H locs hP hD hS => ?_)
        have hP : va_P D vwCl [oX3 a0 a_least a_next c_deepest c_shallowest c_widest, rI cI a_least 5 (upd c_least n1.toNatClampNeg (c_next n1.toNatClampNeg)), rI cI a_next 5 c_next] H := hP
        have hD : va_D A [oX3 a0 a_least a_next c_deepest c_shallowest c_widest, rI cI a_least 5 (upd c_least n1.toNatClampNeg (c_next n1.toNatClampNeg)), rI cI a_next 5 c_next] := hD
        refine lv_iinc (v := (n1 + 1)) (lv' := [(1, .int (n1 + 1)), (0, .ref a0)]) hx hb dX3_takeNext_19 hl (k := 1) rfl rfl (by decide) rfl (fun ls hl => ?_)
        refine lv_goto (tgt := 2) hx hb dX3_takeNext_22 (by decide) ?_
        obtain rfl := Option.some.inj hf
        exact (hWW _ _ _ _ _).mp (ih  _ _ _ hlp K _ _ ls hP hD hS (lv_sub hl [1, 0] rfl))
  refine (hWW _ _ _ _ _).mpr ?_
  refine lv_iconst (v := 0) hx hb dX3_takeNext_0 (by decide) ?_
  refine lv_istore_n (lv' := [(1, .int 0), (0, .ref a0)]) hx hb dX3_takeNext_1 rfl hl (by decide) rfl (fun ls hl => ?_)
  obtain ⟨c5, hc4, hf⟩ := ob1 hf
  refine (hWW _ _ _ _ _).mp (hL2 fu _ _ _ hc4 (fun H locs ls hP hD hS hl => ?_) _ _ ls hP hD hS (lv_sub hl [1, 0] rfl))
  · refine (hWW _ _ _ _ _).mpr ?_
    cases hf
    refine W.widen (k := 0) (n := 0) (Nat.le_of_ble_eq_true rfl) (Nat.le_of_ble_eq_true rfl) ?_
    exact W.vret hx hb hr (fun t ht hW => ⟨⟨(), rfl, trivial, (by show va_P D vwCl _ t.heap; rw [ht]; exact hP)⟩, hS.F ht⟩) hS.2.2 dX3_takeNext_25
def f_X3_crossOver (v1 : Int32) (c_least : Nat → Int32) (c_next : Nat → Int32) : Option ((Nat → Int32) × (Nat → Int32)) :=
  gd 0 5 (gd 0 5 (gd 1 5 (gd 3 5 (gd 1 5 (gd 2 5 (gd 3 5 (gd 2 5 (gd 3 5 (gd 3 5 (gd 4 5 (gd 4 5 (bnd1 (f_X3_takeNext c_least (upd (upd (upd (upd (upd c_next (0 : Int32).toNatClampNeg ((c_least (0 : Int32).toNatClampNeg) + (2 * v1))) (1 : Int32).toNatClampNeg ((if (c_least (3 : Int32).toNatClampNeg) < (c_least (1 : Int32).toNatClampNeg) then (c_least (3 : Int32).toNatClampNeg) else (c_least (1 : Int32).toNatClampNeg)) + (2 * v1))) (2 : Int32).toNatClampNeg ((if (c_least (3 : Int32).toNatClampNeg) < (c_least (2 : Int32).toNatClampNeg) then (c_least (3 : Int32).toNatClampNeg) else (c_least (2 : Int32).toNatClampNeg)) + (2 * v1))) (3 : Int32).toNatClampNeg ((c_least (3 : Int32).toNatClampNeg) + (4 * v1))) (4 : Int32).toNatClampNeg ((c_least (4 : Int32).toNatClampNeg) + (4 * v1)))) (fun o15 =>
  (some (o15, upd (upd (upd (upd (upd c_next (0 : Int32).toNatClampNeg ((c_least (0 : Int32).toNatClampNeg) + (2 * v1))) (1 : Int32).toNatClampNeg ((if (c_least (3 : Int32).toNatClampNeg) < (c_least (1 : Int32).toNatClampNeg) then (c_least (3 : Int32).toNatClampNeg) else (c_least (1 : Int32).toNatClampNeg)) + (2 * v1))) (2 : Int32).toNatClampNeg ((if (c_least (3 : Int32).toNatClampNeg) < (c_least (2 : Int32).toNatClampNeg) then (c_least (3 : Int32).toNatClampNeg) else (c_least (2 : Int32).toNatClampNeg)) + (2 * v1))) (3 : Int32).toNatClampNeg ((c_least (3 : Int32).toNatClampNeg) + (4 * v1))) (4 : Int32).toNatClampNeg ((c_least (4 : Int32).toNatClampNeg) + (4 * v1)))))))))))))))))
set_option maxHeartbeats 4000000 in
set_option maxRecDepth 100000 in
theorem k_X3_crossOver (l : Launch) (hl0 : l.stackTraces = false) (D : va_G) (cI cJ cZ cS : ClassId) (B0 : Nat) (sz : Nat) (a0 a_least a_next : Nat) (c_deepest : Int32) (c_shallowest : Int32) (c_widest : Int32) (c_least : Nat → Int32) (c_next : Nat → Int32) (v1 : Int32) (oc_least : Nat → Int32) (oc_next : Nat → Int32)  (hf : f_X3_crossOver v1 c_least c_next = some (oc_least, oc_next)) : Met l yX3_crossOver (wz yX3_crossOver cX3_crossOver 2 none) ({ frames := 1, cells := 0, slots := 0, locals := 40 }) (va_Pc [.ref a0, .int v1] (wp D cI cJ cZ cS B0 [oX3 a0 a_least a_next c_deepest c_shallowest c_widest, rI cI a_least 5 c_least, rI cI a_next 5 c_next] sz)) (va_Qv (fun (_ : Unit) => True) (fun _ t => va_P D vwCl [oX3 a0 a_least a_next c_deepest c_shallowest c_widest, rI cI a_least 5 oc_least, rI cI a_next 5 oc_next] t.heap) (va_A [oX3 a0 a_least a_next c_deepest c_shallowest c_widest, rI cI a_least 5 c_least, rI cI a_next 5 c_next] sz)) 0 0 (va_A [oX3 a0 a_least a_next c_deepest c_shallowest c_widest, rI cI a_least 5 c_least, rI cI a_next 5 c_next] sz) := by
  refine Met.ofW (cc := cX3_crossOver) (maxL := 2) (ret := none) (by decide) rfl ?_
  intro p e s m args below meth c s₁ B hml hv
  obtain ⟨rfl, hsz, hP, hK, hD0, hB0, hE⟩ := hv
  subst hsz
  have hx := B.exec
  have hb := B.bytes
  have hr := B.returns
  have hts := atoms_spec (ws := (wz yX3_crossOver cX3_crossOver 2 none)) B.pre
  have hown : s.vm.findClass RX3 = some m.cls := findClass_of_methodNamed B.named
  have hlocks := B.notSynchronized
  have hD := hD0.self (sz := s.heap.size)
  have hAB : ∀ q : Nat, va_A [oX3 a0 a_least a_next c_deepest c_shallowest c_widest, rI cI a_least 5 c_least, rI cI a_next 5 c_next] s.heap.size q → B0 ≤ q := va_A_B hD0 hB0
  generalize hAe : va_A [oX3 a0 a_least a_next c_deepest c_shallowest c_widest, rI cI a_least 5 c_least, rI cI a_next 5 c_next] s.heap.size = A at hD hAB ⊢
  have hA : ∀ q : Nat, s.heap.size ≤ q → A q := fun q h => by rw [← hAe]; exact Or.inr h
  have hFa := hA
  have hS : va_S A s.heap s.heap [] := va_S.rf
  have hBn := fun (H : Heap) (locs : List Loc) (h : va_S A s.heap H locs) => Nat.le_trans hB0 h.1
  have hEn := fun (H : Heap) (locs : List Loc) (h : va_S A s.heap H locs) => gE_now hE h hAB
  have hl := lv_entry ([.ref a0, .int v1]) (n := 2) (Nat.le_of_ble_eq_true rfl)
  rw [lg_entry_eq]
  generalize (lg_sl ([.ref a0, .int v1]) ++ List.replicate (2 - (lg_sl ([.ref a0, .int v1])).length) Slot.unset).toArray = ls at hl ⊢
  have hl : lv_has ls 2 [(0, .ref a0), (1, .int v1)] := hl
  obtain ⟨H, hHe⟩ : ∃ H : Heap, H = s.heap := ⟨_, rfl⟩
  have hP : va_P D vwCl [oX3 a0 a_least a_next c_deepest c_shallowest c_widest, rI cI a_least 5 c_least, rI cI a_next 5 c_next] H := by rw [hHe]; exact hP
  have hS : va_S A s.heap H [] := by rw [hHe]; exact hS
  refine W_heq hHe ?_
  unfold f_X3_crossOver at hf
  refine lv_aload_n hx hb dX3_crossOver_0 rfl (lv_at hl 0 rfl) ?_
  refine va_get (D := D) (ci := 2) (v := .ref a_next) (C := RX3) (T := TX3) (N := 5) hx hb hts (fun w h => mb (iX3 w h)) hown hK hP 0 rfl rfl 1 (by decide) (hts _ (mb tb_237)) (fun _ h9 => h9) rfl dX3_crossOver_1 ?_
  refine lv_iconst (v := 0) hx hb dX3_crossOver_4 (by decide) ?_
  refine lv_aload_n hx hb dX3_crossOver_5 rfl (lv_at hl 0 rfl) ?_
  refine va_get (D := D) (ci := 2) (v := .ref a_least) (C := RX3) (T := TX3) (N := 5) hx hb hts (fun w h => mb (iX3 w h)) hown hK hP 0 rfl rfl 0 (by decide) (hts _ (mb tb_236)) (fun _ h9 => h9) rfl dX3_crossOver_6 ?_
  refine lv_iconst (v := 0) hx hb dX3_crossOver_9 (by decide) ?_
  obtain ⟨h1, hf⟩ := ob_d hf
  refine va_iald hx hb hK hP 1 0 rfl rfl h1 dX3_crossOver_10 ?_
  refine lv_iconst (v := 2) hx hb dX3_crossOver_11 (by decide) ?_
  refine lv_iload_n hx hb dX3_crossOver_12 rfl (lv_at hl 1 rfl) ?_
  refine lv_imul hx hb dX3_crossOver_13 ?_
  refine lv_iadd hx hb dX3_crossOver_14 ?_
  obtain ⟨h2, hf⟩ := ob_d hf
  refine va_iast hx hb hK hP hD hS 2 0 rfl rfl h2 dX3_crossOver_15 (fun H locs hP hD hS => ?_)
  have hP : va_P D vwCl [oX3 a0 a_least a_next c_deepest c_shallowest c_widest, rI cI a_least 5 c_least, rI cI a_next 5 (upd c_next (0 : Int32).toNatClampNeg ((c_least (0 : Int32).toNatClampNeg) + (2 * v1)))] H := hP
  have hD : va_D A [oX3 a0 a_least a_next c_deepest c_shallowest c_widest, rI cI a_least 5 c_least, rI cI a_next 5 (upd c_next (0 : Int32).toNatClampNeg ((c_least (0 : Int32).toNatClampNeg) + (2 * v1)))] := hD
  refine lv_aload_n hx hb dX3_crossOver_16 rfl (lv_at hl 0 rfl) ?_
  refine va_get (D := D) (ci := 2) (v := .ref a_next) (C := RX3) (T := TX3) (N := 5) hx hb hts (fun w h => mb (iX3 w h)) hown hK hP 0 rfl rfl 1 (by decide) (hts _ (mb tb_237)) (fun _ h9 => h9) rfl dX3_crossOver_17 ?_
  refine lv_iconst (v := 1) hx hb dX3_crossOver_20 (by decide) ?_
  refine lv_aload_n hx hb dX3_crossOver_21 rfl (lv_at hl 0 rfl) ?_
  refine va_get (D := D) (ci := 2) (v := .ref a_least) (C := RX3) (T := TX3) (N := 5) hx hb hts (fun w h => mb (iX3 w h)) hown hK hP 0 rfl rfl 0 (by decide) (hts _ (mb tb_236)) (fun _ h9 => h9) rfl dX3_crossOver_22 ?_
  refine lv_iconst (v := 1) hx hb dX3_crossOver_25 (by decide) ?_
  obtain ⟨h3, hf⟩ := ob_d hf
  refine va_iald hx hb hK hP 1 0 rfl rfl h3 dX3_crossOver_26 ?_
  refine lv_aload_n hx hb dX3_crossOver_27 rfl (lv_at hl 0 rfl) ?_
  refine va_get (D := D) (ci := 2) (v := .ref a_least) (C := RX3) (T := TX3) (N := 5) hx hb hts (fun w h => mb (iX3 w h)) hown hK hP 0 rfl rfl 0 (by decide) (hts _ (mb tb_236)) (fun _ h9 => h9) rfl dX3_crossOver_28 ?_
  refine lv_iconst (v := 3) hx hb dX3_crossOver_31 (by decide) ?_
  obtain ⟨h4, hf⟩ := ob_d hf
  refine va_iald hx hb hK hP 1 0 rfl rfl h4 dX3_crossOver_32 ?_
  refine va_mmin hx hb (hml.trans hl.1.symm) hown (hts _ (mb tb_776)) (hts _ (mb tb_257)) (hts _ (mb tb_8)) (hts _ (mb wm_min)) (Nat.le_of_ble_eq_true rfl) (Nat.le_of_ble_eq_true rfl) (Nat.zero_le _) (Nat.zero_le _) dX3_crossOver_33 ?_
  refine lv_iconst (v := 2) hx hb dX3_crossOver_36 (by decide) ?_
  refine lv_iload_n hx hb dX3_crossOver_37 rfl (lv_at hl 1 rfl) ?_
  refine lv_imul hx hb dX3_crossOver_38 ?_
  refine lv_iadd hx hb dX3_crossOver_39 ?_
  obtain ⟨h5, hf⟩ := ob_d hf
  refine va_iast hx hb hK hP hD hS 2 0 rfl rfl h5 dX3_crossOver_40 (fun H locs hP hD hS => ?_)
  have hP : va_P D vwCl [oX3 a0 a_least a_next c_deepest c_shallowest c_widest, rI cI a_least 5 c_least, rI cI a_next 5 (upd (upd c_next (0 : Int32).toNatClampNeg ((c_least (0 : Int32).toNatClampNeg) + (2 * v1))) (1 : Int32).toNatClampNeg ((if (c_least (3 : Int32).toNatClampNeg) < (c_least (1 : Int32).toNatClampNeg) then (c_least (3 : Int32).toNatClampNeg) else (c_least (1 : Int32).toNatClampNeg)) + (2 * v1)))] H := hP
  have hD : va_D A [oX3 a0 a_least a_next c_deepest c_shallowest c_widest, rI cI a_least 5 c_least, rI cI a_next 5 (upd (upd c_next (0 : Int32).toNatClampNeg ((c_least (0 : Int32).toNatClampNeg) + (2 * v1))) (1 : Int32).toNatClampNeg ((if (c_least (3 : Int32).toNatClampNeg) < (c_least (1 : Int32).toNatClampNeg) then (c_least (3 : Int32).toNatClampNeg) else (c_least (1 : Int32).toNatClampNeg)) + (2 * v1)))] := hD
  refine lv_aload_n hx hb dX3_crossOver_41 rfl (lv_at hl 0 rfl) ?_
  refine va_get (D := D) (ci := 2) (v := .ref a_next) (C := RX3) (T := TX3) (N := 5) hx hb hts (fun w h => mb (iX3 w h)) hown hK hP 0 rfl rfl 1 (by decide) (hts _ (mb tb_237)) (fun _ h9 => h9) rfl dX3_crossOver_42 ?_
  refine lv_iconst (v := 2) hx hb dX3_crossOver_45 (by decide) ?_
  refine lv_aload_n hx hb dX3_crossOver_46 rfl (lv_at hl 0 rfl) ?_
  refine va_get (D := D) (ci := 2) (v := .ref a_least) (C := RX3) (T := TX3) (N := 5) hx hb hts (fun w h => mb (iX3 w h)) hown hK hP 0 rfl rfl 0 (by decide) (hts _ (mb tb_236)) (fun _ h9 => h9) rfl dX3_crossOver_47 ?_
  refine lv_iconst (v := 2) hx hb dX3_crossOver_50 (by decide) ?_
  obtain ⟨h6, hf⟩ := ob_d hf
  refine va_iald hx hb hK hP 1 0 rfl rfl h6 dX3_crossOver_51 ?_
  refine lv_aload_n hx hb dX3_crossOver_52 rfl (lv_at hl 0 rfl) ?_
  refine va_get (D := D) (ci := 2) (v := .ref a_least) (C := RX3) (T := TX3) (N := 5) hx hb hts (fun w h => mb (iX3 w h)) hown hK hP 0 rfl rfl 0 (by decide) (hts _ (mb tb_236)) (fun _ h9 => h9) rfl dX3_crossOver_53 ?_
  refine lv_iconst (v := 3) hx hb dX3_crossOver_56 (by decide) ?_
  obtain ⟨h7, hf⟩ := ob_d hf
  refine va_iald hx hb hK hP 1 0 rfl rfl h7 dX3_crossOver_57 ?_
  refine va_mmin hx hb (hml.trans hl.1.symm) hown (hts _ (mb tb_776)) (hts _ (mb tb_257)) (hts _ (mb tb_8)) (hts _ (mb wm_min)) (Nat.le_of_ble_eq_true rfl) (Nat.le_of_ble_eq_true rfl) (Nat.zero_le _) (Nat.zero_le _) dX3_crossOver_58 ?_
  refine lv_iconst (v := 2) hx hb dX3_crossOver_61 (by decide) ?_
  refine lv_iload_n hx hb dX3_crossOver_62 rfl (lv_at hl 1 rfl) ?_
  refine lv_imul hx hb dX3_crossOver_63 ?_
  refine lv_iadd hx hb dX3_crossOver_64 ?_
  obtain ⟨h8, hf⟩ := ob_d hf
  refine va_iast hx hb hK hP hD hS 2 0 rfl rfl h8 dX3_crossOver_65 (fun H locs hP hD hS => ?_)
  have hP : va_P D vwCl [oX3 a0 a_least a_next c_deepest c_shallowest c_widest, rI cI a_least 5 c_least, rI cI a_next 5 (upd (upd (upd c_next (0 : Int32).toNatClampNeg ((c_least (0 : Int32).toNatClampNeg) + (2 * v1))) (1 : Int32).toNatClampNeg ((if (c_least (3 : Int32).toNatClampNeg) < (c_least (1 : Int32).toNatClampNeg) then (c_least (3 : Int32).toNatClampNeg) else (c_least (1 : Int32).toNatClampNeg)) + (2 * v1))) (2 : Int32).toNatClampNeg ((if (c_least (3 : Int32).toNatClampNeg) < (c_least (2 : Int32).toNatClampNeg) then (c_least (3 : Int32).toNatClampNeg) else (c_least (2 : Int32).toNatClampNeg)) + (2 * v1)))] H := hP
  have hD : va_D A [oX3 a0 a_least a_next c_deepest c_shallowest c_widest, rI cI a_least 5 c_least, rI cI a_next 5 (upd (upd (upd c_next (0 : Int32).toNatClampNeg ((c_least (0 : Int32).toNatClampNeg) + (2 * v1))) (1 : Int32).toNatClampNeg ((if (c_least (3 : Int32).toNatClampNeg) < (c_least (1 : Int32).toNatClampNeg) then (c_least (3 : Int32).toNatClampNeg) else (c_least (1 : Int32).toNatClampNeg)) + (2 * v1))) (2 : Int32).toNatClampNeg ((if (c_least (3 : Int32).toNatClampNeg) < (c_least (2 : Int32).toNatClampNeg) then (c_least (3 : Int32).toNatClampNeg) else (c_least (2 : Int32).toNatClampNeg)) + (2 * v1)))] := hD
  refine lv_aload_n hx hb dX3_crossOver_66 rfl (lv_at hl 0 rfl) ?_
  refine va_get (D := D) (ci := 2) (v := .ref a_next) (C := RX3) (T := TX3) (N := 5) hx hb hts (fun w h => mb (iX3 w h)) hown hK hP 0 rfl rfl 1 (by decide) (hts _ (mb tb_237)) (fun _ h9 => h9) rfl dX3_crossOver_67 ?_
  refine lv_iconst (v := 3) hx hb dX3_crossOver_70 (by decide) ?_
  refine lv_aload_n hx hb dX3_crossOver_71 rfl (lv_at hl 0 rfl) ?_
  refine va_get (D := D) (ci := 2) (v := .ref a_least) (C := RX3) (T := TX3) (N := 5) hx hb hts (fun w h => mb (iX3 w h)) hown hK hP 0 rfl rfl 0 (by decide) (hts _ (mb tb_236)) (fun _ h9 => h9) rfl dX3_crossOver_72 ?_
  refine lv_iconst (v := 3) hx hb dX3_crossOver_75 (by decide) ?_
  obtain ⟨h9, hf⟩ := ob_d hf
  refine va_iald hx hb hK hP 1 0 rfl rfl h9 dX3_crossOver_76 ?_
  refine lv_iconst (v := 4) hx hb dX3_crossOver_77 (by decide) ?_
  refine lv_iload_n hx hb dX3_crossOver_78 rfl (lv_at hl 1 rfl) ?_
  refine lv_imul hx hb dX3_crossOver_79 ?_
  refine lv_iadd hx hb dX3_crossOver_80 ?_
  obtain ⟨h10, hf⟩ := ob_d hf
  refine va_iast hx hb hK hP hD hS 2 0 rfl rfl h10 dX3_crossOver_81 (fun H locs hP hD hS => ?_)
  have hP : va_P D vwCl [oX3 a0 a_least a_next c_deepest c_shallowest c_widest, rI cI a_least 5 c_least, rI cI a_next 5 (upd (upd (upd (upd c_next (0 : Int32).toNatClampNeg ((c_least (0 : Int32).toNatClampNeg) + (2 * v1))) (1 : Int32).toNatClampNeg ((if (c_least (3 : Int32).toNatClampNeg) < (c_least (1 : Int32).toNatClampNeg) then (c_least (3 : Int32).toNatClampNeg) else (c_least (1 : Int32).toNatClampNeg)) + (2 * v1))) (2 : Int32).toNatClampNeg ((if (c_least (3 : Int32).toNatClampNeg) < (c_least (2 : Int32).toNatClampNeg) then (c_least (3 : Int32).toNatClampNeg) else (c_least (2 : Int32).toNatClampNeg)) + (2 * v1))) (3 : Int32).toNatClampNeg ((c_least (3 : Int32).toNatClampNeg) + (4 * v1)))] H := hP
  have hD : va_D A [oX3 a0 a_least a_next c_deepest c_shallowest c_widest, rI cI a_least 5 c_least, rI cI a_next 5 (upd (upd (upd (upd c_next (0 : Int32).toNatClampNeg ((c_least (0 : Int32).toNatClampNeg) + (2 * v1))) (1 : Int32).toNatClampNeg ((if (c_least (3 : Int32).toNatClampNeg) < (c_least (1 : Int32).toNatClampNeg) then (c_least (3 : Int32).toNatClampNeg) else (c_least (1 : Int32).toNatClampNeg)) + (2 * v1))) (2 : Int32).toNatClampNeg ((if (c_least (3 : Int32).toNatClampNeg) < (c_least (2 : Int32).toNatClampNeg) then (c_least (3 : Int32).toNatClampNeg) else (c_least (2 : Int32).toNatClampNeg)) + (2 * v1))) (3 : Int32).toNatClampNeg ((c_least (3 : Int32).toNatClampNeg) + (4 * v1)))] := hD
  refine lv_aload_n hx hb dX3_crossOver_82 rfl (lv_at hl 0 rfl) ?_
  refine va_get (D := D) (ci := 2) (v := .ref a_next) (C := RX3) (T := TX3) (N := 5) hx hb hts (fun w h => mb (iX3 w h)) hown hK hP 0 rfl rfl 1 (by decide) (hts _ (mb tb_237)) (fun _ h9 => h9) rfl dX3_crossOver_83 ?_
  refine lv_iconst (v := 4) hx hb dX3_crossOver_86 (by decide) ?_
  refine lv_aload_n hx hb dX3_crossOver_87 rfl (lv_at hl 0 rfl) ?_
  refine va_get (D := D) (ci := 2) (v := .ref a_least) (C := RX3) (T := TX3) (N := 5) hx hb hts (fun w h => mb (iX3 w h)) hown hK hP 0 rfl rfl 0 (by decide) (hts _ (mb tb_236)) (fun _ h9 => h9) rfl dX3_crossOver_88 ?_
  refine lv_iconst (v := 4) hx hb dX3_crossOver_91 (by decide) ?_
  obtain ⟨h11, hf⟩ := ob_d hf
  refine va_iald hx hb hK hP 1 0 rfl rfl h11 dX3_crossOver_92 ?_
  refine lv_iconst (v := 4) hx hb dX3_crossOver_93 (by decide) ?_
  refine lv_iload_n hx hb dX3_crossOver_94 rfl (lv_at hl 1 rfl) ?_
  refine lv_imul hx hb dX3_crossOver_95 ?_
  refine lv_iadd hx hb dX3_crossOver_96 ?_
  obtain ⟨h12, hf⟩ := ob_d hf
  refine va_iast hx hb hK hP hD hS 2 0 rfl rfl h12 dX3_crossOver_97 (fun H locs hP hD hS => ?_)
  have hP : va_P D vwCl [oX3 a0 a_least a_next c_deepest c_shallowest c_widest, rI cI a_least 5 c_least, rI cI a_next 5 (upd (upd (upd (upd (upd c_next (0 : Int32).toNatClampNeg ((c_least (0 : Int32).toNatClampNeg) + (2 * v1))) (1 : Int32).toNatClampNeg ((if (c_least (3 : Int32).toNatClampNeg) < (c_least (1 : Int32).toNatClampNeg) then (c_least (3 : Int32).toNatClampNeg) else (c_least (1 : Int32).toNatClampNeg)) + (2 * v1))) (2 : Int32).toNatClampNeg ((if (c_least (3 : Int32).toNatClampNeg) < (c_least (2 : Int32).toNatClampNeg) then (c_least (3 : Int32).toNatClampNeg) else (c_least (2 : Int32).toNatClampNeg)) + (2 * v1))) (3 : Int32).toNatClampNeg ((c_least (3 : Int32).toNatClampNeg) + (4 * v1))) (4 : Int32).toNatClampNeg ((c_least (4 : Int32).toNatClampNeg) + (4 * v1)))] H := hP
  have hD : va_D A [oX3 a0 a_least a_next c_deepest c_shallowest c_widest, rI cI a_least 5 c_least, rI cI a_next 5 (upd (upd (upd (upd (upd c_next (0 : Int32).toNatClampNeg ((c_least (0 : Int32).toNatClampNeg) + (2 * v1))) (1 : Int32).toNatClampNeg ((if (c_least (3 : Int32).toNatClampNeg) < (c_least (1 : Int32).toNatClampNeg) then (c_least (3 : Int32).toNatClampNeg) else (c_least (1 : Int32).toNatClampNeg)) + (2 * v1))) (2 : Int32).toNatClampNeg ((if (c_least (3 : Int32).toNatClampNeg) < (c_least (2 : Int32).toNatClampNeg) then (c_least (3 : Int32).toNatClampNeg) else (c_least (2 : Int32).toNatClampNeg)) + (2 * v1))) (3 : Int32).toNatClampNeg ((c_least (3 : Int32).toNatClampNeg) + (4 * v1))) (4 : Int32).toNatClampNeg ((c_least (4 : Int32).toNatClampNeg) + (4 * v1)))] := hD
  refine lv_aload_n hx hb dX3_crossOver_98 rfl (lv_at hl 0 rfl) ?_
  obtain ⟨o15, hc14, hf⟩ := ob1 hf
  refine rw_callv (va_runV (As := []) (rest := []) ⟨hx, hb, hml, hown, hts⟩ (k_X3_takeNext l hl0 D cI cJ cZ cS B0 H.size a0 a_least a_next c_deepest c_shallowest c_widest c_least (upd (upd (upd (upd (upd c_next (0 : Int32).toNatClampNeg ((c_least (0 : Int32).toNatClampNeg) + (2 * v1))) (1 : Int32).toNatClampNeg ((if (c_least (3 : Int32).toNatClampNeg) < (c_least (1 : Int32).toNatClampNeg) then (c_least (3 : Int32).toNatClampNeg) else (c_least (1 : Int32).toNatClampNeg)) + (2 * v1))) (2 : Int32).toNatClampNeg ((if (c_least (3 : Int32).toNatClampNeg) < (c_least (2 : Int32).toNatClampNeg) then (c_least (3 : Int32).toNatClampNeg) else (c_least (2 : Int32).toNatClampNeg)) + (2 * v1))) (3 : Int32).toNatClampNeg ((c_least (3 : Int32).toNatClampNeg) + (4 * v1))) (4 : Int32).toNatClampNeg ((c_least (4 : Int32).toNatClampNeg) + (4 * v1))) o15 hc14) (cwV 0 hts (gV tb_777 tb_779 ts_23 tb_7 tb_780) rfl rfl rfl (by decide +kernel) ⟨Nat.le_of_ble_eq_true rfl, Nat.le_of_ble_eq_true rfl⟩) ⟨wp_blind, va_recv hK hP (ci := 2) (q0 := 0) rfl rfl, wp_pre (hP.sub [0, 1, 2] rfl) hK (va_D.sub (hD.weaken (fun _ _ _ h9 => hAB _ h9)) [0, 1, 2] rfl rfl) (hBn _ _ hS) (hEn _ _ hS)⟩ rfl rfl hl.1 rfl (lv_room (Nat.le_of_ble_eq_true rfl)) dX3_crossOver_99 ⟨Nat.le_of_ble_eq_true rfl, Nat.le_of_ble_eq_true rfl⟩) hP hD hS hA [oX3 a0 a_least a_next c_deepest c_shallowest c_widest, rI cI a_least 5 o15, rI cI a_next 5 (upd (upd (upd (upd (upd c_next (0 : Int32).toNatClampNeg ((c_least (0 : Int32).toNatClampNeg) + (2 * v1))) (1 : Int32).toNatClampNeg ((if (c_least (3 : Int32).toNatClampNeg) < (c_least (1 : Int32).toNatClampNeg) then (c_least (3 : Int32).toNatClampNeg) else (c_least (1 : Int32).toNatClampNeg)) + (2 * v1))) (2 : Int32).toNatClampNeg ((if (c_least (3 : Int32).toNatClampNeg) < (c_least (2 : Int32).toNatClampNeg) then (c_least (3 : Int32).toNatClampNeg) else (c_least (2 : Int32).toNatClampNeg)) + (2 * v1))) (3 : Int32).toNatClampNeg ((c_least (3 : Int32).toNatClampNeg) + (4 * v1))) (4 : Int32).toNatClampNeg ((c_least (4 : Int32).toNatClampNeg) + (4 * v1)))] 3 [0, 1, 2] [] rfl rfl rfl rfl (by decide +kernel) rfl (fun H locs hP hD hS => ?_)
  cases hf
  refine W.widen (k := 0) (n := 0) (Nat.le_of_ble_eq_true rfl) (Nat.le_of_ble_eq_true rfl) ?_
  exact W.vret hx hb hr (fun t ht hW => ⟨⟨(), rfl, trivial, (by show va_P D vwCl _ t.heap; rw [ht]; exact hP)⟩, hS.F ht⟩) hS.2.2 dX3_crossOver_102
def f_X3_skipLane_L2 (c_least : Nat → Int32) (n1 : Int32) (c_next : Nat → Int32) : Option ((Int32 × (Nat → Int32)) ⊕ (Nat → Int32)) :=
  (if 5 ≤ n1 then some (.inr c_next)
  else gd n1 5 (gd n1 5 (gd n1 5 (some (.inl (n1 + 1, upd c_next n1.toNatClampNeg (if (c_least n1.toNatClampNeg) < (c_next n1.toNatClampNeg) then (c_least n1.toNatClampNeg) else (c_next n1.toNatClampNeg))))))))
def f_X3_skipLane (c_least : Nat → Int32) (c_next : Nat → Int32) : Option ((Nat → Int32)) :=
  (bnd1 (loop (fun z => f_X3_skipLane_L2 c_least z.1 z.2) fu (0, c_next)) fun c6 =>
  some c6)
set_option maxHeartbeats 4000000 in
set_option maxRecDepth 100000 in
theorem k_X3_skipLane (l : Launch) (hl0 : l.stackTraces = false) (D : va_G) (cI cJ cZ cS : ClassId) (B0 : Nat) (sz : Nat) (a0 a_least a_next : Nat) (c_deepest : Int32) (c_shallowest : Int32) (c_widest : Int32) (c_least : Nat → Int32) (c_next : Nat → Int32) (oc_next : Nat → Int32)  (hf : f_X3_skipLane c_least c_next = some oc_next) : Met l yX3_skipLane (wz yX3_skipLane cX3_skipLane 2 none) ({ frames := 1, cells := 0, slots := 0, locals := 40 }) (va_Pc [.ref a0] (wp D cI cJ cZ cS B0 [oX3 a0 a_least a_next c_deepest c_shallowest c_widest, rI cI a_least 5 c_least, rI cI a_next 5 c_next] sz)) (va_Qv (fun (_ : Unit) => True) (fun _ t => va_P D vwCl [oX3 a0 a_least a_next c_deepest c_shallowest c_widest, rI cI a_least 5 c_least, rI cI a_next 5 oc_next] t.heap) (va_A [oX3 a0 a_least a_next c_deepest c_shallowest c_widest, rI cI a_least 5 c_least, rI cI a_next 5 c_next] sz)) 0 0 (va_A [oX3 a0 a_least a_next c_deepest c_shallowest c_widest, rI cI a_least 5 c_least, rI cI a_next 5 c_next] sz) := by
  refine Met.ofW (cc := cX3_skipLane) (maxL := 2) (ret := none) (by decide) rfl ?_
  intro p e s m args below meth c s₁ B hml hv
  obtain ⟨rfl, hsz, hP, hK, hD0, hB0, hE⟩ := hv
  subst hsz
  have hx := B.exec
  have hb := B.bytes
  have hr := B.returns
  have hts := atoms_spec (ws := (wz yX3_skipLane cX3_skipLane 2 none)) B.pre
  have hown : s.vm.findClass RX3 = some m.cls := findClass_of_methodNamed B.named
  have hlocks := B.notSynchronized
  have hD := hD0.self (sz := s.heap.size)
  have hAB : ∀ q : Nat, va_A [oX3 a0 a_least a_next c_deepest c_shallowest c_widest, rI cI a_least 5 c_least, rI cI a_next 5 c_next] s.heap.size q → B0 ≤ q := va_A_B hD0 hB0
  generalize hAe : va_A [oX3 a0 a_least a_next c_deepest c_shallowest c_widest, rI cI a_least 5 c_least, rI cI a_next 5 c_next] s.heap.size = A at hD hAB ⊢
  have hA : ∀ q : Nat, s.heap.size ≤ q → A q := fun q h => by rw [← hAe]; exact Or.inr h
  have hFa := hA
  have hS : va_S A s.heap s.heap [] := va_S.rf
  have hBn := fun (H : Heap) (locs : List Loc) (h : va_S A s.heap H locs) => Nat.le_trans hB0 h.1
  have hEn := fun (H : Heap) (locs : List Loc) (h : va_S A s.heap H locs) => gE_now hE h hAB
  have hl := lv_entry ([.ref a0]) (n := 2) (Nat.le_of_ble_eq_true rfl)
  rw [lg_entry_eq]
  generalize (lg_sl ([.ref a0]) ++ List.replicate (2 - (lg_sl ([.ref a0])).length) Slot.unset).toArray = ls at hl ⊢
  have hl : lv_has ls 2 [(0, .ref a0)] := hl
  obtain ⟨H, hHe⟩ : ∃ H : Heap, H = s.heap := ⟨_, rfl⟩
  have hP : va_P D vwCl [oX3 a0 a_least a_next c_deepest c_shallowest c_widest, rI cI a_least 5 c_least, rI cI a_next 5 c_next] H := by rw [hHe]; exact hP
  have hS : va_S A s.heap H [] := by rw [hHe]; exact hS
  refine W_heq hHe ?_
  unfold f_X3_skipLane at hf
  refine gen_goW (fun WW hWW => ?_)
  have hL2 : ∀ (n : Nat) (n1 : Int32) (c_next : Nat → Int32) (e_c_next : Nat → Int32), loop (fun z => f_X3_skipLane_L2 c_least z.1 z.2) n (n1, c_next) = some e_c_next → (∀ (H : Heap) (locs : List Loc) (ls : Array Slot), va_P D vwCl [oX3 a0 a_least a_next c_deepest c_shallowest c_widest, rI cI a_least 5 c_least, rI cI a_next 5 e_c_next] H → va_D A [oX3 a0 a_least a_next c_deepest c_shallowest c_widest, rI cI a_least 5 c_least, rI cI a_next 5 e_c_next] → va_S A s.heap H locs → lv_has ls 2 [] → WW H locs 0 0 (F0 m 34 ls [])) → ∀ (H : Heap) (locs : List Loc) (ls : Array Slot), va_P D vwCl [oX3 a0 a_least a_next c_deepest c_shallowest c_widest, rI cI a_least 5 c_least, rI cI a_next 5 c_next] H → va_D A [oX3 a0 a_least a_next c_deepest c_shallowest c_widest, rI cI a_least 5 c_least, rI cI a_next 5 c_next] → va_S A s.heap H locs → lv_has ls 2 [(0, .ref a0), (1, .int n1)] → WW H locs 0 0 (F0 m 2 ls []) := by
    intro n
    induction n with
    | zero =>
      intro n1 c_next e_c_next hlp
      exact absurd hlp (by simp [loop])
    | succ n ih =>
      intro n1 c_next e_c_next hlp K H locs ls hP hD hS hl
      obtain ⟨x9, hf, hlp⟩ := loop_s hlp
      have hf : f_X3_skipLane_L2 c_least n1 c_next = some x9 := hf
      unfold f_X3_skipLane_L2 at hf
      refine (hWW _ _ _ _ _).mpr ?_
      refine lv_iload_n hx hb dX3_skipLane_2 rfl (lv_at hl 1 rfl) ?_
      refine lv_iconst (v := 5) hx hb dX3_skipLane_3 (by decide) ?_
      refine lv_icmp_ge (tgt := 34) hx hb dX3_skipLane_4 (by decide) (fun h1 => ?_) (fun h1 => ?_)
      · have hf := ipos h1 hf
        obtain rfl := Option.some.inj hf
        cases lpx_r hlp
        exact (hWW _ _ _ _ _).mp (K _ _ ls hP hD hS (lv_sub hl [] rfl))
      · have hf := ineg h1 hf
        refine lv_aload_n hx hb dX3_skipLane_7 rfl (lv_at hl 0 rfl) ?_
        refine va_get (D := D) (ci := 2) (v := .ref a_next) (C := RX3) (T := TX3) (N := 5) hx hb hts (fun w h => mb (iX3 w h)) hown hK hP 0 rfl rfl 1 (by decide) (hts _ (mb tb_237)) (fun _ h9 => h9) rfl dX3_skipLane_8 ?_
        refine lv_iload_n hx hb dX3_skipLane_11 rfl (lv_at hl 1 rfl) ?_
        refine lv_aload_n hx hb dX3_skipLane_12 rfl (lv_at hl 0 rfl) ?_
        refine va_get (D := D) (ci := 2) (v := .ref a_next) (C := RX3) (T := TX3) (N := 5) hx hb hts (fun w h => mb (iX3 w h)) hown hK hP 0 rfl rfl 1 (by decide) (hts _ (mb tb_237)) (fun _ h9 => h9) rfl dX3_skipLane_13 ?_
        refine lv_iload_n hx hb dX3_skipLane_16 rfl (lv_at hl 1 rfl) ?_
        obtain ⟨h2, hf⟩ := ob_d hf
        refine va_iald hx hb hK hP 2 0 rfl rfl h2 dX3_skipLane_17 ?_
        refine lv_aload_n hx hb dX3_skipLane_18 rfl (lv_at hl 0 rfl) ?_
        refine va_get (D := D) (ci := 2) (v := .ref a_least) (C := RX3) (T := TX3) (N := 5) hx hb hts (fun w h => mb (iX3 w h)) hown hK hP 0 rfl rfl 0 (by decide) (hts _ (mb tb_236)) (fun _ h9 => h9) rfl dX3_skipLane_19 ?_
        refine lv_iload_n hx hb dX3_skipLane_22 rfl (lv_at hl 1 rfl) ?_
        obtain ⟨h3, hf⟩ := ob_d hf
        refine va_iald hx hb hK hP 1 0 rfl rfl h3 dX3_skipLane_23 ?_
        refine va_mmin hx hb (hml.trans hl.1.symm) hown (hts _ (mb tb_776)) (hts _ (mb tb_257)) (hts _ (mb tb_8)) (hts _ (mb wm_min)) (Nat.le_of_ble_eq_true rfl) (Nat.le_of_ble_eq_true rfl) (Nat.zero_le _) (Nat.zero_le _) dX3_skipLane_24 ?_
        obtain ⟨h4, hf⟩ := ob_d hf
        refine va_iast hx hb hK hP hD hS 2 0 rfl rfl h4 dX3_skipLane_27 (fun H locs hP hD hS => ?_)
        have hP : va_P D vwCl [oX3 a0 a_least a_next c_deepest c_shallowest c_widest, rI cI a_least 5 c_least, rI cI a_next 5 (upd c_next n1.toNatClampNeg (if (c_least n1.toNatClampNeg) < (c_next n1.toNatClampNeg) then (c_least n1.toNatClampNeg) else (c_next n1.toNatClampNeg)))] H := hP
        have hD : va_D A [oX3 a0 a_least a_next c_deepest c_shallowest c_widest, rI cI a_least 5 c_least, rI cI a_next 5 (upd c_next n1.toNatClampNeg (if (c_least n1.toNatClampNeg) < (c_next n1.toNatClampNeg) then (c_least n1.toNatClampNeg) else (c_next n1.toNatClampNeg)))] := hD
        refine lv_iinc (v := (n1 + 1)) (lv' := [(1, .int (n1 + 1)), (0, .ref a0)]) hx hb dX3_skipLane_28 hl (k := 1) rfl rfl (by decide) rfl (fun ls hl => ?_)
        refine lv_goto (tgt := 2) hx hb dX3_skipLane_31 (by decide) ?_
        obtain rfl := Option.some.inj hf
        exact (hWW _ _ _ _ _).mp (ih  _ _ _ hlp K _ _ ls hP hD hS (lv_sub hl [1, 0] rfl))
  refine (hWW _ _ _ _ _).mpr ?_
  refine lv_iconst (v := 0) hx hb dX3_skipLane_0 (by decide) ?_
  refine lv_istore_n (lv' := [(1, .int 0), (0, .ref a0)]) hx hb dX3_skipLane_1 rfl hl (by decide) rfl (fun ls hl => ?_)
  obtain ⟨c6, hc5, hf⟩ := ob1 hf
  refine (hWW _ _ _ _ _).mp (hL2 fu _ _ _ hc5 (fun H locs ls hP hD hS hl => ?_) _ _ ls hP hD hS (lv_sub hl [1, 0] rfl))
  · refine (hWW _ _ _ _ _).mpr ?_
    cases hf
    refine W.widen (k := 0) (n := 0) (Nat.le_of_ble_eq_true rfl) (Nat.le_of_ble_eq_true rfl) ?_
    exact W.vret hx hb hr (fun t ht hW => ⟨⟨(), rfl, trivial, (by show va_P D vwCl _ t.heap; rw [ht]; exact hP)⟩, hS.F ht⟩) hS.2.2 dX3_skipLane_34
def f_X3_turnInLane (v1 : Int32) (c_deepest : Int32) (c_shallowest : Int32) (c_widest : Int32) (c_least : Nat → Int32) (c_next : Nat → Int32) : Option ((Nat → Int32)) :=
  gd 0 5 (gd 0 5 (gd 0 5 (gd 3 5 (gd 3 5 (gd 3 5 (gd 1 5 (gd 1 5 (gd 2 5 (gd 2 5 (gd 1 5 (gd 2 5 (gd 4 5 (gd 4 5 (some (upd (upd (upd (upd (upd c_next (0 : Int32).toNatClampNeg (if ((c_least (0 : Int32).toNatClampNeg) + (if (if (2 * (v1 - c_widest)) < (2 * (v1 - c_shallowest)) then (2 * (v1 - c_widest)) else (2 * (v1 - c_shallowest))) < (2 * c_deepest) then (if (2 * (v1 - c_widest)) < (2 * (v1 - c_shallowest)) then (2 * (v1 - c_widest)) else (2 * (v1 - c_shallowest))) else (2 * c_deepest))) < (c_next (0 : Int32).toNatClampNeg) then ((c_least (0 : Int32).toNatClampNeg) + (if (if (2 * (v1 - c_widest)) < (2 * (v1 - c_shallowest)) then (2 * (v1 - c_widest)) else (2 * (v1 - c_shallowest))) < (2 * c_deepest) then (if (2 * (v1 - c_widest)) < (2 * (v1 - c_shallowest)) then (2 * (v1 - c_widest)) else (2 * (v1 - c_shallowest))) else (2 * c_deepest))) else (c_next (0 : Int32).toNatClampNeg))) (3 : Int32).toNatClampNeg (if ((c_least (3 : Int32).toNatClampNeg) + (if (if (2 * (v1 - c_widest)) < (2 * (v1 - c_shallowest)) then (2 * (v1 - c_widest)) else (2 * (v1 - c_shallowest))) < (2 * c_deepest) then (if (2 * (v1 - c_widest)) < (2 * (v1 - c_shallowest)) then (2 * (v1 - c_widest)) else (2 * (v1 - c_shallowest))) else (2 * c_deepest))) < ((upd c_next (0 : Int32).toNatClampNeg (if ((c_least (0 : Int32).toNatClampNeg) + (if (if (2 * (v1 - c_widest)) < (2 * (v1 - c_shallowest)) then (2 * (v1 - c_widest)) else (2 * (v1 - c_shallowest))) < (2 * c_deepest) then (if (2 * (v1 - c_widest)) < (2 * (v1 - c_shallowest)) then (2 * (v1 - c_widest)) else (2 * (v1 - c_shallowest))) else (2 * c_deepest))) < (c_next (0 : Int32).toNatClampNeg) then ((c_least (0 : Int32).toNatClampNeg) + (if (if (2 * (v1 - c_widest)) < (2 * (v1 - c_shallowest)) then (2 * (v1 - c_widest)) else (2 * (v1 - c_shallowest))) < (2 * c_deepest) then (if (2 * (v1 - c_widest)) < (2 * (v1 - c_shallowest)) then (2 * (v1 - c_widest)) else (2 * (v1 - c_shallowest))) else (2 * c_deepest))) else (c_next (0 : Int32).toNatClampNeg))) (3 : Int32).toNatClampNeg) then ((c_least (3 : Int32).toNatClampNeg) + (if (if (2 * (v1 - c_widest)) < (2 * (v1 - c_shallowest)) then (2 * (v1 - c_widest)) else (2 * (v1 - c_shallowest))) < (2 * c_deepest) then (if (2 * (v1 - c_widest)) < (2 * (v1 - c_shallowest)) then (2 * (v1 - c_widest)) else (2 * (v1 - c_shallowest))) else (2 * c_deepest))) else ((upd c_next (0 : Int32).toNatClampNeg (if ((c_least (0 : Int32).toNatClampNeg) + (if (if (2 * (v1 - c_widest)) < (2 * (v1 - c_shallowest)) then (2 * (v1 - c_widest)) else (2 * (v1 - c_shallowest))) < (2 * c_deepest) then (if (2 * (v1 - c_widest)) < (2 * (v1 - c_shallowest)) then (2 * (v1 - c_widest)) else (2 * (v1 - c_shallowest))) else (2 * c_deepest))) < (c_next (0 : Int32).toNatClampNeg) then ((c_least (0 : Int32).toNatClampNeg) + (if (if (2 * (v1 - c_widest)) < (2 * (v1 - c_shallowest)) then (2 * (v1 - c_widest)) else (2 * (v1 - c_shallowest))) < (2 * c_deepest) then (if (2 * (v1 - c_widest)) < (2 * (v1 - c_shallowest)) then (2 * (v1 - c_widest)) else (2 * (v1 - c_shallowest))) else (2 * c_deepest))) else (c_next (0 : Int32).toNatClampNeg))) (3 : Int32).toNatClampNeg))) (1 : Int32).toNatClampNeg ((c_least (1 : Int32).toNatClampNeg) + (2 * c_deepest))) (2 : Int32).toNatClampNeg ((c_least (2 : Int32).toNatClampNeg) + (2 * (v1 - c_shallowest)))) (4 : Int32).toNatClampNeg (if (if ((c_least (2 : Int32).toNatClampNeg) + (if (2 * (v1 - c_widest)) < (2 * c_deepest) then (2 * (v1 - c_widest)) else (2 * c_deepest))) < ((c_least (1 : Int32).toNatClampNeg) + (if (2 * (v1 - c_widest)) < (2 * (v1 - c_shallowest)) then (2 * (v1 - c_widest)) else (2 * (v1 - c_shallowest)))) then ((c_least (2 : Int32).toNatClampNeg) + (if (2 * (v1 - c_widest)) < (2 * c_deepest) then (2 * (v1 - c_widest)) else (2 * c_deepest))) else ((c_least (1 : Int32).toNatClampNeg) + (if (2 * (v1 - c_widest)) < (2 * (v1 - c_shallowest)) then (2 * (v1 - c_widest)) else (2 * (v1 - c_shallowest))))) < ((c_least (4 : Int32).toNatClampNeg) + (if (if (2 * (v1 - c_widest)) < (2 * (v1 - c_shallowest)) then (2 * (v1 - c_widest)) else (2 * (v1 - c_shallowest))) < (2 * c_deepest) then (if (2 * (v1 - c_widest)) < (2 * (v1 - c_shallowest)) then (2 * (v1 - c_widest)) else (2 * (v1 - c_shallowest))) else (2 * c_deepest))) then (if ((c_least (2 : Int32).toNatClampNeg) + (if (2 * (v1 - c_widest)) < (2 * c_deepest) then (2 * (v1 - c_widest)) else (2 * c_deepest))) < ((c_least (1 : Int32).toNatClampNeg) + (if (2 * (v1 - c_widest)) < (2 * (v1 - c_shallowest)) then (2 * (v1 - c_widest)) else (2 * (v1 - c_shallowest)))) then ((c_least (2 : Int32).toNatClampNeg) + (if (2 * (v1 - c_widest)) < (2 * c_deepest) then (2 * (v1 - c_widest)) else (2 * c_deepest))) else ((c_least (1 : Int32).toNatClampNeg) + (if (2 * (v1 - c_widest)) < (2 * (v1 - c_shallowest)) then (2 * (v1 - c_widest)) else (2 * (v1 - c_shallowest))))) else ((c_least (4 : Int32).toNatClampNeg) + (if (if (2 * (v1 - c_widest)) < (2 * (v1 - c_shallowest)) then (2 * (v1 - c_widest)) else (2 * (v1 - c_shallowest))) < (2 * c_deepest) then (if (2 * (v1 - c_widest)) < (2 * (v1 - c_shallowest)) then (2 * (v1 - c_widest)) else (2 * (v1 - c_shallowest))) else (2 * c_deepest)))))))))))))))))))
set_option maxHeartbeats 4000000 in
set_option maxRecDepth 100000 in
theorem k_X3_turnInLane (l : Launch) (hl0 : l.stackTraces = false) (D : va_G) (cI cJ cZ cS : ClassId) (B0 : Nat) (sz : Nat) (a0 a_least a_next : Nat) (c_deepest : Int32) (c_shallowest : Int32) (c_widest : Int32) (c_least : Nat → Int32) (c_next : Nat → Int32) (v1 : Int32) (oc_next : Nat → Int32)  (hf : f_X3_turnInLane v1 c_deepest c_shallowest c_widest c_least c_next = some oc_next) : Met l yX3_turnInLane (wz yX3_turnInLane cX3_turnInLane 8 none) ({ frames := 1, cells := 0, slots := 0, locals := 40 }) (va_Pc [.ref a0, .int v1] (wp D cI cJ cZ cS B0 [oX3 a0 a_least a_next c_deepest c_shallowest c_widest, rI cI a_least 5 c_least, rI cI a_next 5 c_next] sz)) (va_Qv (fun (_ : Unit) => True) (fun _ t => va_P D vwCl [oX3 a0 a_least a_next c_deepest c_shallowest c_widest, rI cI a_least 5 c_least, rI cI a_next 5 oc_next] t.heap) (va_A [oX3 a0 a_least a_next c_deepest c_shallowest c_widest, rI cI a_least 5 c_least, rI cI a_next 5 c_next] sz)) 0 0 (va_A [oX3 a0 a_least a_next c_deepest c_shallowest c_widest, rI cI a_least 5 c_least, rI cI a_next 5 c_next] sz) := by
  refine Met.ofW (cc := cX3_turnInLane) (maxL := 8) (ret := none) (by decide) rfl ?_
  intro p e s m args below meth c s₁ B hml hv
  obtain ⟨rfl, hsz, hP, hK, hD0, hB0, hE⟩ := hv
  subst hsz
  have hx := B.exec
  have hb := B.bytes
  have hr := B.returns
  have hts := atoms_spec (ws := (wz yX3_turnInLane cX3_turnInLane 8 none)) B.pre
  have hown : s.vm.findClass RX3 = some m.cls := findClass_of_methodNamed B.named
  have hlocks := B.notSynchronized
  have hD := hD0.self (sz := s.heap.size)
  have hAB : ∀ q : Nat, va_A [oX3 a0 a_least a_next c_deepest c_shallowest c_widest, rI cI a_least 5 c_least, rI cI a_next 5 c_next] s.heap.size q → B0 ≤ q := va_A_B hD0 hB0
  generalize hAe : va_A [oX3 a0 a_least a_next c_deepest c_shallowest c_widest, rI cI a_least 5 c_least, rI cI a_next 5 c_next] s.heap.size = A at hD hAB ⊢
  have hA : ∀ q : Nat, s.heap.size ≤ q → A q := fun q h => by rw [← hAe]; exact Or.inr h
  have hFa := hA
  have hS : va_S A s.heap s.heap [] := va_S.rf
  have hBn := fun (H : Heap) (locs : List Loc) (h : va_S A s.heap H locs) => Nat.le_trans hB0 h.1
  have hEn := fun (H : Heap) (locs : List Loc) (h : va_S A s.heap H locs) => gE_now hE h hAB
  have hl := lv_entry ([.ref a0, .int v1]) (n := 8) (Nat.le_of_ble_eq_true rfl)
  rw [lg_entry_eq]
  generalize (lg_sl ([.ref a0, .int v1]) ++ List.replicate (8 - (lg_sl ([.ref a0, .int v1])).length) Slot.unset).toArray = ls at hl ⊢
  have hl : lv_has ls 8 [(0, .ref a0), (1, .int v1)] := hl
  obtain ⟨H, hHe⟩ : ∃ H : Heap, H = s.heap := ⟨_, rfl⟩
  have hP : va_P D vwCl [oX3 a0 a_least a_next c_deepest c_shallowest c_widest, rI cI a_least 5 c_least, rI cI a_next 5 c_next] H := by rw [hHe]; exact hP
  have hS : va_S A s.heap H [] := by rw [hHe]; exact hS
  refine W_heq hHe ?_
  unfold f_X3_turnInLane at hf
  refine lv_iconst (v := 2) hx hb dX3_turnInLane_0 (by decide) ?_
  refine lv_aload_n hx hb dX3_turnInLane_1 rfl (lv_at hl 0 rfl) ?_
  refine va_get (D := D) (ci := 2) (v := .int c_deepest) (C := RX3) (T := TX3) (N := 5) hx hb hts (fun w h => mb (iX3 w h)) hown hK hP 0 rfl rfl 2 (by decide) (hts _ (mb tb_238)) (fun _ h9 => h9) rfl dX3_turnInLane_2 ?_
  refine lv_imul hx hb dX3_turnInLane_5 ?_
  refine lv_istore_n (lv' := [(2, .int (2 * c_deepest)), (0, .ref a0), (1, .int v1)]) hx hb dX3_turnInLane_6 rfl hl (by decide) rfl (fun ls hl => ?_)
  refine lv_iconst (v := 2) hx hb dX3_turnInLane_7 (by decide) ?_
  refine lv_iload_n hx hb dX3_turnInLane_8 rfl (lv_at hl 2 rfl) ?_
  refine lv_aload_n hx hb dX3_turnInLane_9 rfl (lv_at hl 1 rfl) ?_
  refine va_get (D := D) (ci := 2) (v := .int c_shallowest) (C := RX3) (T := TX3) (N := 5) hx hb hts (fun w h => mb (iX3 w h)) hown hK hP 0 rfl rfl 3 (by decide) (hts _ (mb tb_239)) (fun _ h9 => h9) rfl dX3_turnInLane_10 ?_
  refine lv_isub hx hb dX3_turnInLane_13 ?_
  refine lv_imul hx hb dX3_turnInLane_14 ?_
  refine lv_istore_n (lv' := [(3, .int (2 * (v1 - c_shallowest))), (2, .int (2 * c_deepest)), (0, .ref a0), (1, .int v1)]) hx hb dX3_turnInLane_15 rfl hl (by decide) rfl (fun ls hl => ?_)
  refine lv_iconst (v := 2) hx hb dX3_turnInLane_16 (by decide) ?_
  refine lv_iload_n hx hb dX3_turnInLane_17 rfl (lv_at hl 3 rfl) ?_
  refine lv_aload_n hx hb dX3_turnInLane_18 rfl (lv_at hl 2 rfl) ?_
  refine va_get (D := D) (ci := 2) (v := .int c_widest) (C := RX3) (T := TX3) (N := 5) hx hb hts (fun w h => mb (iX3 w h)) hown hK hP 0 rfl rfl 4 (by decide) (hts _ (mb tb_240)) (fun _ h9 => h9) rfl dX3_turnInLane_19 ?_
  refine lv_isub hx hb dX3_turnInLane_22 ?_
  refine lv_imul hx hb dX3_turnInLane_23 ?_
  refine lv_istore (lv' := [(4, .int (2 * (v1 - c_widest))), (3, .int (2 * (v1 - c_shallowest))), (2, .int (2 * c_deepest)), (0, .ref a0), (1, .int v1)]) hx hb dX3_turnInLane_24 hl (by decide) rfl (fun ls hl => ?_)
  refine lv_iload_n hx hb dX3_turnInLane_26 rfl (lv_at hl 2 rfl) ?_
  refine lv_iload_n hx hb dX3_turnInLane_27 rfl (lv_at hl 1 rfl) ?_
  refine lv_iload hx hb dX3_turnInLane_28 (lv_at hl 0 rfl) ?_
  refine va_mmin hx hb (hml.trans hl.1.symm) hown (hts _ (mb tb_776)) (hts _ (mb tb_257)) (hts _ (mb tb_8)) (hts _ (mb wm_min)) (Nat.le_of_ble_eq_true rfl) (Nat.le_of_ble_eq_true rfl) (Nat.zero_le _) (Nat.zero_le _) dX3_turnInLane_30 ?_
  refine va_mmin hx hb (hml.trans hl.1.symm) hown (hts _ (mb tb_776)) (hts _ (mb tb_257)) (hts _ (mb tb_8)) (hts _ (mb wm_min)) (Nat.le_of_ble_eq_true rfl) (Nat.le_of_ble_eq_true rfl) (Nat.zero_le _) (Nat.zero_le _) dX3_turnInLane_33 ?_
  refine lv_istore (lv' := [(5, .int (if (if (2 * (v1 - c_widest)) < (2 * (v1 - c_shallowest)) then (2 * (v1 - c_widest)) else (2 * (v1 - c_shallowest))) < (2 * c_deepest) then (if (2 * (v1 - c_widest)) < (2 * (v1 - c_shallowest)) then (2 * (v1 - c_widest)) else (2 * (v1 - c_shallowest))) else (2 * c_deepest))), (4, .int (2 * (v1 - c_widest))), (3, .int (2 * (v1 - c_shallowest))), (2, .int (2 * c_deepest)), (0, .ref a0), (1, .int v1)]) hx hb dX3_turnInLane_36 hl (by decide) rfl (fun ls hl => ?_)
  refine lv_aload_n hx hb dX3_turnInLane_38 rfl (lv_at hl 4 rfl) ?_
  refine va_get (D := D) (ci := 2) (v := .ref a_next) (C := RX3) (T := TX3) (N := 5) hx hb hts (fun w h => mb (iX3 w h)) hown hK hP 0 rfl rfl 1 (by decide) (hts _ (mb tb_237)) (fun _ h9 => h9) rfl dX3_turnInLane_39 ?_
  refine lv_iconst (v := 0) hx hb dX3_turnInLane_42 (by decide) ?_
  refine lv_aload_n hx hb dX3_turnInLane_43 rfl (lv_at hl 4 rfl) ?_
  refine va_get (D := D) (ci := 2) (v := .ref a_next) (C := RX3) (T := TX3) (N := 5) hx hb hts (fun w h => mb (iX3 w h)) hown hK hP 0 rfl rfl 1 (by decide) (hts _ (mb tb_237)) (fun _ h9 => h9) rfl dX3_turnInLane_44 ?_
  refine lv_iconst (v := 0) hx hb dX3_turnInLane_47 (by decide) ?_
  obtain ⟨h1, hf⟩ := ob_d hf
  refine va_iald hx hb hK hP 2 0 rfl rfl h1 dX3_turnInLane_48 ?_
  refine lv_aload_n hx hb dX3_turnInLane_49 rfl (lv_at hl 4 rfl) ?_
  refine va_get (D := D) (ci := 2) (v := .ref a_least) (C := RX3) (T := TX3) (N := 5) hx hb hts (fun w h => mb (iX3 w h)) hown hK hP 0 rfl rfl 0 (by decide) (hts _ (mb tb_236)) (fun _ h9 => h9) rfl dX3_turnInLane_50 ?_
  refine lv_iconst (v := 0) hx hb dX3_turnInLane_53 (by decide) ?_
  obtain ⟨h2, hf⟩ := ob_d hf
  refine va_iald hx hb hK hP 1 0 rfl rfl h2 dX3_turnInLane_54 ?_
  refine lv_iload hx hb dX3_turnInLane_55 (lv_at hl 0 rfl) ?_
  refine lv_iadd hx hb dX3_turnInLane_57 ?_
  refine va_mmin hx hb (hml.trans hl.1.symm) hown (hts _ (mb tb_776)) (hts _ (mb tb_257)) (hts _ (mb tb_8)) (hts _ (mb wm_min)) (Nat.le_of_ble_eq_true rfl) (Nat.le_of_ble_eq_true rfl) (Nat.zero_le _) (Nat.zero_le _) dX3_turnInLane_58 ?_
  obtain ⟨h3, hf⟩ := ob_d hf
  refine va_iast hx hb hK hP hD hS 2 0 rfl rfl h3 dX3_turnInLane_61 (fun H locs hP hD hS => ?_)
  have hP : va_P D vwCl [oX3 a0 a_least a_next c_deepest c_shallowest c_widest, rI cI a_least 5 c_least, rI cI a_next 5 (upd c_next (0 : Int32).toNatClampNeg (if ((c_least (0 : Int32).toNatClampNeg) + (if (if (2 * (v1 - c_widest)) < (2 * (v1 - c_shallowest)) then (2 * (v1 - c_widest)) else (2 * (v1 - c_shallowest))) < (2 * c_deepest) then (if (2 * (v1 - c_widest)) < (2 * (v1 - c_shallowest)) then (2 * (v1 - c_widest)) else (2 * (v1 - c_shallowest))) else (2 * c_deepest))) < (c_next (0 : Int32).toNatClampNeg) then ((c_least (0 : Int32).toNatClampNeg) + (if (if (2 * (v1 - c_widest)) < (2 * (v1 - c_shallowest)) then (2 * (v1 - c_widest)) else (2 * (v1 - c_shallowest))) < (2 * c_deepest) then (if (2 * (v1 - c_widest)) < (2 * (v1 - c_shallowest)) then (2 * (v1 - c_widest)) else (2 * (v1 - c_shallowest))) else (2 * c_deepest))) else (c_next (0 : Int32).toNatClampNeg)))] H := hP
  have hD : va_D A [oX3 a0 a_least a_next c_deepest c_shallowest c_widest, rI cI a_least 5 c_least, rI cI a_next 5 (upd c_next (0 : Int32).toNatClampNeg (if ((c_least (0 : Int32).toNatClampNeg) + (if (if (2 * (v1 - c_widest)) < (2 * (v1 - c_shallowest)) then (2 * (v1 - c_widest)) else (2 * (v1 - c_shallowest))) < (2 * c_deepest) then (if (2 * (v1 - c_widest)) < (2 * (v1 - c_shallowest)) then (2 * (v1 - c_widest)) else (2 * (v1 - c_shallowest))) else (2 * c_deepest))) < (c_next (0 : Int32).toNatClampNeg) then ((c_least (0 : Int32).toNatClampNeg) + (if (if (2 * (v1 - c_widest)) < (2 * (v1 - c_shallowest)) then (2 * (v1 - c_widest)) else (2 * (v1 - c_shallowest))) < (2 * c_deepest) then (if (2 * (v1 - c_widest)) < (2 * (v1 - c_shallowest)) then (2 * (v1 - c_widest)) else (2 * (v1 - c_shallowest))) else (2 * c_deepest))) else (c_next (0 : Int32).toNatClampNeg)))] := hD
  refine lv_aload_n hx hb dX3_turnInLane_62 rfl (lv_at hl 4 rfl) ?_
  refine va_get (D := D) (ci := 2) (v := .ref a_next) (C := RX3) (T := TX3) (N := 5) hx hb hts (fun w h => mb (iX3 w h)) hown hK hP 0 rfl rfl 1 (by decide) (hts _ (mb tb_237)) (fun _ h9 => h9) rfl dX3_turnInLane_63 ?_
  refine lv_iconst (v := 3) hx hb dX3_turnInLane_66 (by decide) ?_
  refine lv_aload_n hx hb dX3_turnInLane_67 rfl (lv_at hl 4 rfl) ?_
  refine va_get (D := D) (ci := 2) (v := .ref a_next) (C := RX3) (T := TX3) (N := 5) hx hb hts (fun w h => mb (iX3 w h)) hown hK hP 0 rfl rfl 1 (by decide) (hts _ (mb tb_237)) (fun _ h9 => h9) rfl dX3_turnInLane_68 ?_
  refine lv_iconst (v := 3) hx hb dX3_turnInLane_71 (by decide) ?_
  obtain ⟨h4, hf⟩ := ob_d hf
  refine va_iald hx hb hK hP 2 0 rfl rfl h4 dX3_turnInLane_72 ?_
  refine lv_aload_n hx hb dX3_turnInLane_73 rfl (lv_at hl 4 rfl) ?_
  refine va_get (D := D) (ci := 2) (v := .ref a_least) (C := RX3) (T := TX3) (N := 5) hx hb hts (fun w h => mb (iX3 w h)) hown hK hP 0 rfl rfl 0 (by decide) (hts _ (mb tb_236)) (fun _ h9 => h9) rfl dX3_turnInLane_74 ?_
  refine lv_iconst (v := 3) hx hb dX3_turnInLane_77 (by decide) ?_
  obtain ⟨h5, hf⟩ := ob_d hf
  refine va_iald hx hb hK hP 1 0 rfl rfl h5 dX3_turnInLane_78 ?_
  refine lv_iload hx hb dX3_turnInLane_79 (lv_at hl 0 rfl) ?_
  refine lv_iadd hx hb dX3_turnInLane_81 ?_
  refine va_mmin hx hb (hml.trans hl.1.symm) hown (hts _ (mb tb_776)) (hts _ (mb tb_257)) (hts _ (mb tb_8)) (hts _ (mb wm_min)) (Nat.le_of_ble_eq_true rfl) (Nat.le_of_ble_eq_true rfl) (Nat.zero_le _) (Nat.zero_le _) dX3_turnInLane_82 ?_
  obtain ⟨h6, hf⟩ := ob_d hf
  refine va_iast hx hb hK hP hD hS 2 0 rfl rfl h6 dX3_turnInLane_85 (fun H locs hP hD hS => ?_)
  have hP : va_P D vwCl [oX3 a0 a_least a_next c_deepest c_shallowest c_widest, rI cI a_least 5 c_least, rI cI a_next 5 (upd (upd c_next (0 : Int32).toNatClampNeg (if ((c_least (0 : Int32).toNatClampNeg) + (if (if (2 * (v1 - c_widest)) < (2 * (v1 - c_shallowest)) then (2 * (v1 - c_widest)) else (2 * (v1 - c_shallowest))) < (2 * c_deepest) then (if (2 * (v1 - c_widest)) < (2 * (v1 - c_shallowest)) then (2 * (v1 - c_widest)) else (2 * (v1 - c_shallowest))) else (2 * c_deepest))) < (c_next (0 : Int32).toNatClampNeg) then ((c_least (0 : Int32).toNatClampNeg) + (if (if (2 * (v1 - c_widest)) < (2 * (v1 - c_shallowest)) then (2 * (v1 - c_widest)) else (2 * (v1 - c_shallowest))) < (2 * c_deepest) then (if (2 * (v1 - c_widest)) < (2 * (v1 - c_shallowest)) then (2 * (v1 - c_widest)) else (2 * (v1 - c_shallowest))) else (2 * c_deepest))) else (c_next (0 : Int32).toNatClampNeg))) (3 : Int32).toNatClampNeg (if ((c_least (3 : Int32).toNatClampNeg) + (if (if (2 * (v1 - c_widest)) < (2 * (v1 - c_shallowest)) then (2 * (v1 - c_widest)) else (2 * (v1 - c_shallowest))) < (2 * c_deepest) then (if (2 * (v1 - c_widest)) < (2 * (v1 - c_shallowest)) then (2 * (v1 - c_widest)) else (2 * (v1 - c_shallowest))) else (2 * c_deepest))) < ((upd c_next (0 : Int32).toNatClampNeg (if ((c_least (0 : Int32).toNatClampNeg) + (if (if (2 * (v1 - c_widest)) < (2 * (v1 - c_shallowest)) then (2 * (v1 - c_widest)) else (2 * (v1 - c_shallowest))) < (2 * c_deepest) then (if (2 * (v1 - c_widest)) < (2 * (v1 - c_shallowest)) then (2 * (v1 - c_widest)) else (2 * (v1 - c_shallowest))) else (2 * c_deepest))) < (c_next (0 : Int32).toNatClampNeg) then ((c_least (0 : Int32).toNatClampNeg) + (if (if (2 * (v1 - c_widest)) < (2 * (v1 - c_shallowest)) then (2 * (v1 - c_widest)) else (2 * (v1 - c_shallowest))) < (2 * c_deepest) then (if (2 * (v1 - c_widest)) < (2 * (v1 - c_shallowest)) then (2 * (v1 - c_widest)) else (2 * (v1 - c_shallowest))) else (2 * c_deepest))) else (c_next (0 : Int32).toNatClampNeg))) (3 : Int32).toNatClampNeg) then ((c_least (3 : Int32).toNatClampNeg) + (if (if (2 * (v1 - c_widest)) < (2 * (v1 - c_shallowest)) then (2 * (v1 - c_widest)) else (2 * (v1 - c_shallowest))) < (2 * c_deepest) then (if (2 * (v1 - c_widest)) < (2 * (v1 - c_shallowest)) then (2 * (v1 - c_widest)) else (2 * (v1 - c_shallowest))) else (2 * c_deepest))) else ((upd c_next (0 : Int32).toNatClampNeg (if ((c_least (0 : Int32).toNatClampNeg) + (if (if (2 * (v1 - c_widest)) < (2 * (v1 - c_shallowest)) then (2 * (v1 - c_widest)) else (2 * (v1 - c_shallowest))) < (2 * c_deepest) then (if (2 * (v1 - c_widest)) < (2 * (v1 - c_shallowest)) then (2 * (v1 - c_widest)) else (2 * (v1 - c_shallowest))) else (2 * c_deepest))) < (c_next (0 : Int32).toNatClampNeg) then ((c_least (0 : Int32).toNatClampNeg) + (if (if (2 * (v1 - c_widest)) < (2 * (v1 - c_shallowest)) then (2 * (v1 - c_widest)) else (2 * (v1 - c_shallowest))) < (2 * c_deepest) then (if (2 * (v1 - c_widest)) < (2 * (v1 - c_shallowest)) then (2 * (v1 - c_widest)) else (2 * (v1 - c_shallowest))) else (2 * c_deepest))) else (c_next (0 : Int32).toNatClampNeg))) (3 : Int32).toNatClampNeg)))] H := hP
  have hD : va_D A [oX3 a0 a_least a_next c_deepest c_shallowest c_widest, rI cI a_least 5 c_least, rI cI a_next 5 (upd (upd c_next (0 : Int32).toNatClampNeg (if ((c_least (0 : Int32).toNatClampNeg) + (if (if (2 * (v1 - c_widest)) < (2 * (v1 - c_shallowest)) then (2 * (v1 - c_widest)) else (2 * (v1 - c_shallowest))) < (2 * c_deepest) then (if (2 * (v1 - c_widest)) < (2 * (v1 - c_shallowest)) then (2 * (v1 - c_widest)) else (2 * (v1 - c_shallowest))) else (2 * c_deepest))) < (c_next (0 : Int32).toNatClampNeg) then ((c_least (0 : Int32).toNatClampNeg) + (if (if (2 * (v1 - c_widest)) < (2 * (v1 - c_shallowest)) then (2 * (v1 - c_widest)) else (2 * (v1 - c_shallowest))) < (2 * c_deepest) then (if (2 * (v1 - c_widest)) < (2 * (v1 - c_shallowest)) then (2 * (v1 - c_widest)) else (2 * (v1 - c_shallowest))) else (2 * c_deepest))) else (c_next (0 : Int32).toNatClampNeg))) (3 : Int32).toNatClampNeg (if ((c_least (3 : Int32).toNatClampNeg) + (if (if (2 * (v1 - c_widest)) < (2 * (v1 - c_shallowest)) then (2 * (v1 - c_widest)) else (2 * (v1 - c_shallowest))) < (2 * c_deepest) then (if (2 * (v1 - c_widest)) < (2 * (v1 - c_shallowest)) then (2 * (v1 - c_widest)) else (2 * (v1 - c_shallowest))) else (2 * c_deepest))) < ((upd c_next (0 : Int32).toNatClampNeg (if ((c_least (0 : Int32).toNatClampNeg) + (if (if (2 * (v1 - c_widest)) < (2 * (v1 - c_shallowest)) then (2 * (v1 - c_widest)) else (2 * (v1 - c_shallowest))) < (2 * c_deepest) then (if (2 * (v1 - c_widest)) < (2 * (v1 - c_shallowest)) then (2 * (v1 - c_widest)) else (2 * (v1 - c_shallowest))) else (2 * c_deepest))) < (c_next (0 : Int32).toNatClampNeg) then ((c_least (0 : Int32).toNatClampNeg) + (if (if (2 * (v1 - c_widest)) < (2 * (v1 - c_shallowest)) then (2 * (v1 - c_widest)) else (2 * (v1 - c_shallowest))) < (2 * c_deepest) then (if (2 * (v1 - c_widest)) < (2 * (v1 - c_shallowest)) then (2 * (v1 - c_widest)) else (2 * (v1 - c_shallowest))) else (2 * c_deepest))) else (c_next (0 : Int32).toNatClampNeg))) (3 : Int32).toNatClampNeg) then ((c_least (3 : Int32).toNatClampNeg) + (if (if (2 * (v1 - c_widest)) < (2 * (v1 - c_shallowest)) then (2 * (v1 - c_widest)) else (2 * (v1 - c_shallowest))) < (2 * c_deepest) then (if (2 * (v1 - c_widest)) < (2 * (v1 - c_shallowest)) then (2 * (v1 - c_widest)) else (2 * (v1 - c_shallowest))) else (2 * c_deepest))) else ((upd c_next (0 : Int32).toNatClampNeg (if ((c_least (0 : Int32).toNatClampNeg) + (if (if (2 * (v1 - c_widest)) < (2 * (v1 - c_shallowest)) then (2 * (v1 - c_widest)) else (2 * (v1 - c_shallowest))) < (2 * c_deepest) then (if (2 * (v1 - c_widest)) < (2 * (v1 - c_shallowest)) then (2 * (v1 - c_widest)) else (2 * (v1 - c_shallowest))) else (2 * c_deepest))) < (c_next (0 : Int32).toNatClampNeg) then ((c_least (0 : Int32).toNatClampNeg) + (if (if (2 * (v1 - c_widest)) < (2 * (v1 - c_shallowest)) then (2 * (v1 - c_widest)) else (2 * (v1 - c_shallowest))) < (2 * c_deepest) then (if (2 * (v1 - c_widest)) < (2 * (v1 - c_shallowest)) then (2 * (v1 - c_widest)) else (2 * (v1 - c_shallowest))) else (2 * c_deepest))) else (c_next (0 : Int32).toNatClampNeg))) (3 : Int32).toNatClampNeg)))] := hD
  refine lv_aload_n hx hb dX3_turnInLane_86 rfl (lv_at hl 4 rfl) ?_
  refine va_get (D := D) (ci := 2) (v := .ref a_next) (C := RX3) (T := TX3) (N := 5) hx hb hts (fun w h => mb (iX3 w h)) hown hK hP 0 rfl rfl 1 (by decide) (hts _ (mb tb_237)) (fun _ h9 => h9) rfl dX3_turnInLane_87 ?_
  refine lv_iconst (v := 1) hx hb dX3_turnInLane_90 (by decide) ?_
  refine lv_aload_n hx hb dX3_turnInLane_91 rfl (lv_at hl 4 rfl) ?_
  refine va_get (D := D) (ci := 2) (v := .ref a_least) (C := RX3) (T := TX3) (N := 5) hx hb hts (fun w h => mb (iX3 w h)) hown hK hP 0 rfl rfl 0 (by decide) (hts _ (mb tb_236)) (fun _ h9 => h9) rfl dX3_turnInLane_92 ?_
  refine lv_iconst (v := 1) hx hb dX3_turnInLane_95 (by decide) ?_
  obtain ⟨h7, hf⟩ := ob_d hf
  refine va_iald hx hb hK hP 1 0 rfl rfl h7 dX3_turnInLane_96 ?_
  refine lv_iload_n hx hb dX3_turnInLane_97 rfl (lv_at hl 3 rfl) ?_
  refine lv_iadd hx hb dX3_turnInLane_98 ?_
  obtain ⟨h8, hf⟩ := ob_d hf
  refine va_iast hx hb hK hP hD hS 2 0 rfl rfl h8 dX3_turnInLane_99 (fun H locs hP hD hS => ?_)
  have hP : va_P D vwCl [oX3 a0 a_least a_next c_deepest c_shallowest c_widest, rI cI a_least 5 c_least, rI cI a_next 5 (upd (upd (upd c_next (0 : Int32).toNatClampNeg (if ((c_least (0 : Int32).toNatClampNeg) + (if (if (2 * (v1 - c_widest)) < (2 * (v1 - c_shallowest)) then (2 * (v1 - c_widest)) else (2 * (v1 - c_shallowest))) < (2 * c_deepest) then (if (2 * (v1 - c_widest)) < (2 * (v1 - c_shallowest)) then (2 * (v1 - c_widest)) else (2 * (v1 - c_shallowest))) else (2 * c_deepest))) < (c_next (0 : Int32).toNatClampNeg) then ((c_least (0 : Int32).toNatClampNeg) + (if (if (2 * (v1 - c_widest)) < (2 * (v1 - c_shallowest)) then (2 * (v1 - c_widest)) else (2 * (v1 - c_shallowest))) < (2 * c_deepest) then (if (2 * (v1 - c_widest)) < (2 * (v1 - c_shallowest)) then (2 * (v1 - c_widest)) else (2 * (v1 - c_shallowest))) else (2 * c_deepest))) else (c_next (0 : Int32).toNatClampNeg))) (3 : Int32).toNatClampNeg (if ((c_least (3 : Int32).toNatClampNeg) + (if (if (2 * (v1 - c_widest)) < (2 * (v1 - c_shallowest)) then (2 * (v1 - c_widest)) else (2 * (v1 - c_shallowest))) < (2 * c_deepest) then (if (2 * (v1 - c_widest)) < (2 * (v1 - c_shallowest)) then (2 * (v1 - c_widest)) else (2 * (v1 - c_shallowest))) else (2 * c_deepest))) < ((upd c_next (0 : Int32).toNatClampNeg (if ((c_least (0 : Int32).toNatClampNeg) + (if (if (2 * (v1 - c_widest)) < (2 * (v1 - c_shallowest)) then (2 * (v1 - c_widest)) else (2 * (v1 - c_shallowest))) < (2 * c_deepest) then (if (2 * (v1 - c_widest)) < (2 * (v1 - c_shallowest)) then (2 * (v1 - c_widest)) else (2 * (v1 - c_shallowest))) else (2 * c_deepest))) < (c_next (0 : Int32).toNatClampNeg) then ((c_least (0 : Int32).toNatClampNeg) + (if (if (2 * (v1 - c_widest)) < (2 * (v1 - c_shallowest)) then (2 * (v1 - c_widest)) else (2 * (v1 - c_shallowest))) < (2 * c_deepest) then (if (2 * (v1 - c_widest)) < (2 * (v1 - c_shallowest)) then (2 * (v1 - c_widest)) else (2 * (v1 - c_shallowest))) else (2 * c_deepest))) else (c_next (0 : Int32).toNatClampNeg))) (3 : Int32).toNatClampNeg) then ((c_least (3 : Int32).toNatClampNeg) + (if (if (2 * (v1 - c_widest)) < (2 * (v1 - c_shallowest)) then (2 * (v1 - c_widest)) else (2 * (v1 - c_shallowest))) < (2 * c_deepest) then (if (2 * (v1 - c_widest)) < (2 * (v1 - c_shallowest)) then (2 * (v1 - c_widest)) else (2 * (v1 - c_shallowest))) else (2 * c_deepest))) else ((upd c_next (0 : Int32).toNatClampNeg (if ((c_least (0 : Int32).toNatClampNeg) + (if (if (2 * (v1 - c_widest)) < (2 * (v1 - c_shallowest)) then (2 * (v1 - c_widest)) else (2 * (v1 - c_shallowest))) < (2 * c_deepest) then (if (2 * (v1 - c_widest)) < (2 * (v1 - c_shallowest)) then (2 * (v1 - c_widest)) else (2 * (v1 - c_shallowest))) else (2 * c_deepest))) < (c_next (0 : Int32).toNatClampNeg) then ((c_least (0 : Int32).toNatClampNeg) + (if (if (2 * (v1 - c_widest)) < (2 * (v1 - c_shallowest)) then (2 * (v1 - c_widest)) else (2 * (v1 - c_shallowest))) < (2 * c_deepest) then (if (2 * (v1 - c_widest)) < (2 * (v1 - c_shallowest)) then (2 * (v1 - c_widest)) else (2 * (v1 - c_shallowest))) else (2 * c_deepest))) else (c_next (0 : Int32).toNatClampNeg))) (3 : Int32).toNatClampNeg))) (1 : Int32).toNatClampNeg ((c_least (1 : Int32).toNatClampNeg) + (2 * c_deepest)))] H := hP
  have hD : va_D A [oX3 a0 a_least a_next c_deepest c_shallowest c_widest, rI cI a_least 5 c_least, rI cI a_next 5 (upd (upd (upd c_next (0 : Int32).toNatClampNeg (if ((c_least (0 : Int32).toNatClampNeg) + (if (if (2 * (v1 - c_widest)) < (2 * (v1 - c_shallowest)) then (2 * (v1 - c_widest)) else (2 * (v1 - c_shallowest))) < (2 * c_deepest) then (if (2 * (v1 - c_widest)) < (2 * (v1 - c_shallowest)) then (2 * (v1 - c_widest)) else (2 * (v1 - c_shallowest))) else (2 * c_deepest))) < (c_next (0 : Int32).toNatClampNeg) then ((c_least (0 : Int32).toNatClampNeg) + (if (if (2 * (v1 - c_widest)) < (2 * (v1 - c_shallowest)) then (2 * (v1 - c_widest)) else (2 * (v1 - c_shallowest))) < (2 * c_deepest) then (if (2 * (v1 - c_widest)) < (2 * (v1 - c_shallowest)) then (2 * (v1 - c_widest)) else (2 * (v1 - c_shallowest))) else (2 * c_deepest))) else (c_next (0 : Int32).toNatClampNeg))) (3 : Int32).toNatClampNeg (if ((c_least (3 : Int32).toNatClampNeg) + (if (if (2 * (v1 - c_widest)) < (2 * (v1 - c_shallowest)) then (2 * (v1 - c_widest)) else (2 * (v1 - c_shallowest))) < (2 * c_deepest) then (if (2 * (v1 - c_widest)) < (2 * (v1 - c_shallowest)) then (2 * (v1 - c_widest)) else (2 * (v1 - c_shallowest))) else (2 * c_deepest))) < ((upd c_next (0 : Int32).toNatClampNeg (if ((c_least (0 : Int32).toNatClampNeg) + (if (if (2 * (v1 - c_widest)) < (2 * (v1 - c_shallowest)) then (2 * (v1 - c_widest)) else (2 * (v1 - c_shallowest))) < (2 * c_deepest) then (if (2 * (v1 - c_widest)) < (2 * (v1 - c_shallowest)) then (2 * (v1 - c_widest)) else (2 * (v1 - c_shallowest))) else (2 * c_deepest))) < (c_next (0 : Int32).toNatClampNeg) then ((c_least (0 : Int32).toNatClampNeg) + (if (if (2 * (v1 - c_widest)) < (2 * (v1 - c_shallowest)) then (2 * (v1 - c_widest)) else (2 * (v1 - c_shallowest))) < (2 * c_deepest) then (if (2 * (v1 - c_widest)) < (2 * (v1 - c_shallowest)) then (2 * (v1 - c_widest)) else (2 * (v1 - c_shallowest))) else (2 * c_deepest))) else (c_next (0 : Int32).toNatClampNeg))) (3 : Int32).toNatClampNeg) then ((c_least (3 : Int32).toNatClampNeg) + (if (if (2 * (v1 - c_widest)) < (2 * (v1 - c_shallowest)) then (2 * (v1 - c_widest)) else (2 * (v1 - c_shallowest))) < (2 * c_deepest) then (if (2 * (v1 - c_widest)) < (2 * (v1 - c_shallowest)) then (2 * (v1 - c_widest)) else (2 * (v1 - c_shallowest))) else (2 * c_deepest))) else ((upd c_next (0 : Int32).toNatClampNeg (if ((c_least (0 : Int32).toNatClampNeg) + (if (if (2 * (v1 - c_widest)) < (2 * (v1 - c_shallowest)) then (2 * (v1 - c_widest)) else (2 * (v1 - c_shallowest))) < (2 * c_deepest) then (if (2 * (v1 - c_widest)) < (2 * (v1 - c_shallowest)) then (2 * (v1 - c_widest)) else (2 * (v1 - c_shallowest))) else (2 * c_deepest))) < (c_next (0 : Int32).toNatClampNeg) then ((c_least (0 : Int32).toNatClampNeg) + (if (if (2 * (v1 - c_widest)) < (2 * (v1 - c_shallowest)) then (2 * (v1 - c_widest)) else (2 * (v1 - c_shallowest))) < (2 * c_deepest) then (if (2 * (v1 - c_widest)) < (2 * (v1 - c_shallowest)) then (2 * (v1 - c_widest)) else (2 * (v1 - c_shallowest))) else (2 * c_deepest))) else (c_next (0 : Int32).toNatClampNeg))) (3 : Int32).toNatClampNeg))) (1 : Int32).toNatClampNeg ((c_least (1 : Int32).toNatClampNeg) + (2 * c_deepest)))] := hD
  refine lv_aload_n hx hb dX3_turnInLane_100 rfl (lv_at hl 4 rfl) ?_
  refine va_get (D := D) (ci := 2) (v := .ref a_next) (C := RX3) (T := TX3) (N := 5) hx hb hts (fun w h => mb (iX3 w h)) hown hK hP 0 rfl rfl 1 (by decide) (hts _ (mb tb_237)) (fun _ h9 => h9) rfl dX3_turnInLane_101 ?_
  refine lv_iconst (v := 2) hx hb dX3_turnInLane_104 (by decide) ?_
  refine lv_aload_n hx hb dX3_turnInLane_105 rfl (lv_at hl 4 rfl) ?_
  refine va_get (D := D) (ci := 2) (v := .ref a_least) (C := RX3) (T := TX3) (N := 5) hx hb hts (fun w h => mb (iX3 w h)) hown hK hP 0 rfl rfl 0 (by decide) (hts _ (mb tb_236)) (fun _ h9 => h9) rfl dX3_turnInLane_106 ?_
  refine lv_iconst (v := 2) hx hb dX3_turnInLane_109 (by decide) ?_
  obtain ⟨h9, hf⟩ := ob_d hf
  refine va_iald hx hb hK hP 1 0 rfl rfl h9 dX3_turnInLane_110 ?_
  refine lv_iload_n hx hb dX3_turnInLane_111 rfl (lv_at hl 2 rfl) ?_
  refine lv_iadd hx hb dX3_turnInLane_112 ?_
  obtain ⟨h10, hf⟩ := ob_d hf
  refine va_iast hx hb hK hP hD hS 2 0 rfl rfl h10 dX3_turnInLane_113 (fun H locs hP hD hS => ?_)
  have hP : va_P D vwCl [oX3 a0 a_least a_next c_deepest c_shallowest c_widest, rI cI a_least 5 c_least, rI cI a_next 5 (upd (upd (upd (upd c_next (0 : Int32).toNatClampNeg (if ((c_least (0 : Int32).toNatClampNeg) + (if (if (2 * (v1 - c_widest)) < (2 * (v1 - c_shallowest)) then (2 * (v1 - c_widest)) else (2 * (v1 - c_shallowest))) < (2 * c_deepest) then (if (2 * (v1 - c_widest)) < (2 * (v1 - c_shallowest)) then (2 * (v1 - c_widest)) else (2 * (v1 - c_shallowest))) else (2 * c_deepest))) < (c_next (0 : Int32).toNatClampNeg) then ((c_least (0 : Int32).toNatClampNeg) + (if (if (2 * (v1 - c_widest)) < (2 * (v1 - c_shallowest)) then (2 * (v1 - c_widest)) else (2 * (v1 - c_shallowest))) < (2 * c_deepest) then (if (2 * (v1 - c_widest)) < (2 * (v1 - c_shallowest)) then (2 * (v1 - c_widest)) else (2 * (v1 - c_shallowest))) else (2 * c_deepest))) else (c_next (0 : Int32).toNatClampNeg))) (3 : Int32).toNatClampNeg (if ((c_least (3 : Int32).toNatClampNeg) + (if (if (2 * (v1 - c_widest)) < (2 * (v1 - c_shallowest)) then (2 * (v1 - c_widest)) else (2 * (v1 - c_shallowest))) < (2 * c_deepest) then (if (2 * (v1 - c_widest)) < (2 * (v1 - c_shallowest)) then (2 * (v1 - c_widest)) else (2 * (v1 - c_shallowest))) else (2 * c_deepest))) < ((upd c_next (0 : Int32).toNatClampNeg (if ((c_least (0 : Int32).toNatClampNeg) + (if (if (2 * (v1 - c_widest)) < (2 * (v1 - c_shallowest)) then (2 * (v1 - c_widest)) else (2 * (v1 - c_shallowest))) < (2 * c_deepest) then (if (2 * (v1 - c_widest)) < (2 * (v1 - c_shallowest)) then (2 * (v1 - c_widest)) else (2 * (v1 - c_shallowest))) else (2 * c_deepest))) < (c_next (0 : Int32).toNatClampNeg) then ((c_least (0 : Int32).toNatClampNeg) + (if (if (2 * (v1 - c_widest)) < (2 * (v1 - c_shallowest)) then (2 * (v1 - c_widest)) else (2 * (v1 - c_shallowest))) < (2 * c_deepest) then (if (2 * (v1 - c_widest)) < (2 * (v1 - c_shallowest)) then (2 * (v1 - c_widest)) else (2 * (v1 - c_shallowest))) else (2 * c_deepest))) else (c_next (0 : Int32).toNatClampNeg))) (3 : Int32).toNatClampNeg) then ((c_least (3 : Int32).toNatClampNeg) + (if (if (2 * (v1 - c_widest)) < (2 * (v1 - c_shallowest)) then (2 * (v1 - c_widest)) else (2 * (v1 - c_shallowest))) < (2 * c_deepest) then (if (2 * (v1 - c_widest)) < (2 * (v1 - c_shallowest)) then (2 * (v1 - c_widest)) else (2 * (v1 - c_shallowest))) else (2 * c_deepest))) else ((upd c_next (0 : Int32).toNatClampNeg (if ((c_least (0 : Int32).toNatClampNeg) + (if (if (2 * (v1 - c_widest)) < (2 * (v1 - c_shallowest)) then (2 * (v1 - c_widest)) else (2 * (v1 - c_shallowest))) < (2 * c_deepest) then (if (2 * (v1 - c_widest)) < (2 * (v1 - c_shallowest)) then (2 * (v1 - c_widest)) else (2 * (v1 - c_shallowest))) else (2 * c_deepest))) < (c_next (0 : Int32).toNatClampNeg) then ((c_least (0 : Int32).toNatClampNeg) + (if (if (2 * (v1 - c_widest)) < (2 * (v1 - c_shallowest)) then (2 * (v1 - c_widest)) else (2 * (v1 - c_shallowest))) < (2 * c_deepest) then (if (2 * (v1 - c_widest)) < (2 * (v1 - c_shallowest)) then (2 * (v1 - c_widest)) else (2 * (v1 - c_shallowest))) else (2 * c_deepest))) else (c_next (0 : Int32).toNatClampNeg))) (3 : Int32).toNatClampNeg))) (1 : Int32).toNatClampNeg ((c_least (1 : Int32).toNatClampNeg) + (2 * c_deepest))) (2 : Int32).toNatClampNeg ((c_least (2 : Int32).toNatClampNeg) + (2 * (v1 - c_shallowest))))] H := hP
  have hD : va_D A [oX3 a0 a_least a_next c_deepest c_shallowest c_widest, rI cI a_least 5 c_least, rI cI a_next 5 (upd (upd (upd (upd c_next (0 : Int32).toNatClampNeg (if ((c_least (0 : Int32).toNatClampNeg) + (if (if (2 * (v1 - c_widest)) < (2 * (v1 - c_shallowest)) then (2 * (v1 - c_widest)) else (2 * (v1 - c_shallowest))) < (2 * c_deepest) then (if (2 * (v1 - c_widest)) < (2 * (v1 - c_shallowest)) then (2 * (v1 - c_widest)) else (2 * (v1 - c_shallowest))) else (2 * c_deepest))) < (c_next (0 : Int32).toNatClampNeg) then ((c_least (0 : Int32).toNatClampNeg) + (if (if (2 * (v1 - c_widest)) < (2 * (v1 - c_shallowest)) then (2 * (v1 - c_widest)) else (2 * (v1 - c_shallowest))) < (2 * c_deepest) then (if (2 * (v1 - c_widest)) < (2 * (v1 - c_shallowest)) then (2 * (v1 - c_widest)) else (2 * (v1 - c_shallowest))) else (2 * c_deepest))) else (c_next (0 : Int32).toNatClampNeg))) (3 : Int32).toNatClampNeg (if ((c_least (3 : Int32).toNatClampNeg) + (if (if (2 * (v1 - c_widest)) < (2 * (v1 - c_shallowest)) then (2 * (v1 - c_widest)) else (2 * (v1 - c_shallowest))) < (2 * c_deepest) then (if (2 * (v1 - c_widest)) < (2 * (v1 - c_shallowest)) then (2 * (v1 - c_widest)) else (2 * (v1 - c_shallowest))) else (2 * c_deepest))) < ((upd c_next (0 : Int32).toNatClampNeg (if ((c_least (0 : Int32).toNatClampNeg) + (if (if (2 * (v1 - c_widest)) < (2 * (v1 - c_shallowest)) then (2 * (v1 - c_widest)) else (2 * (v1 - c_shallowest))) < (2 * c_deepest) then (if (2 * (v1 - c_widest)) < (2 * (v1 - c_shallowest)) then (2 * (v1 - c_widest)) else (2 * (v1 - c_shallowest))) else (2 * c_deepest))) < (c_next (0 : Int32).toNatClampNeg) then ((c_least (0 : Int32).toNatClampNeg) + (if (if (2 * (v1 - c_widest)) < (2 * (v1 - c_shallowest)) then (2 * (v1 - c_widest)) else (2 * (v1 - c_shallowest))) < (2 * c_deepest) then (if (2 * (v1 - c_widest)) < (2 * (v1 - c_shallowest)) then (2 * (v1 - c_widest)) else (2 * (v1 - c_shallowest))) else (2 * c_deepest))) else (c_next (0 : Int32).toNatClampNeg))) (3 : Int32).toNatClampNeg) then ((c_least (3 : Int32).toNatClampNeg) + (if (if (2 * (v1 - c_widest)) < (2 * (v1 - c_shallowest)) then (2 * (v1 - c_widest)) else (2 * (v1 - c_shallowest))) < (2 * c_deepest) then (if (2 * (v1 - c_widest)) < (2 * (v1 - c_shallowest)) then (2 * (v1 - c_widest)) else (2 * (v1 - c_shallowest))) else (2 * c_deepest))) else ((upd c_next (0 : Int32).toNatClampNeg (if ((c_least (0 : Int32).toNatClampNeg) + (if (if (2 * (v1 - c_widest)) < (2 * (v1 - c_shallowest)) then (2 * (v1 - c_widest)) else (2 * (v1 - c_shallowest))) < (2 * c_deepest) then (if (2 * (v1 - c_widest)) < (2 * (v1 - c_shallowest)) then (2 * (v1 - c_widest)) else (2 * (v1 - c_shallowest))) else (2 * c_deepest))) < (c_next (0 : Int32).toNatClampNeg) then ((c_least (0 : Int32).toNatClampNeg) + (if (if (2 * (v1 - c_widest)) < (2 * (v1 - c_shallowest)) then (2 * (v1 - c_widest)) else (2 * (v1 - c_shallowest))) < (2 * c_deepest) then (if (2 * (v1 - c_widest)) < (2 * (v1 - c_shallowest)) then (2 * (v1 - c_widest)) else (2 * (v1 - c_shallowest))) else (2 * c_deepest))) else (c_next (0 : Int32).toNatClampNeg))) (3 : Int32).toNatClampNeg))) (1 : Int32).toNatClampNeg ((c_least (1 : Int32).toNatClampNeg) + (2 * c_deepest))) (2 : Int32).toNatClampNeg ((c_least (2 : Int32).toNatClampNeg) + (2 * (v1 - c_shallowest))))] := hD
  refine lv_aload_n hx hb dX3_turnInLane_114 rfl (lv_at hl 4 rfl) ?_
  refine va_get (D := D) (ci := 2) (v := .ref a_least) (C := RX3) (T := TX3) (N := 5) hx hb hts (fun w h => mb (iX3 w h)) hown hK hP 0 rfl rfl 0 (by decide) (hts _ (mb tb_236)) (fun _ h9 => h9) rfl dX3_turnInLane_115 ?_
  refine lv_iconst (v := 1) hx hb dX3_turnInLane_118 (by decide) ?_
  obtain ⟨h11, hf⟩ := ob_d hf
  refine va_iald hx hb hK hP 1 0 rfl rfl h11 dX3_turnInLane_119 ?_
  refine lv_iload_n hx hb dX3_turnInLane_120 rfl (lv_at hl 2 rfl) ?_
  refine lv_iload hx hb dX3_turnInLane_121 (lv_at hl 1 rfl) ?_
  refine va_mmin hx hb (hml.trans hl.1.symm) hown (hts _ (mb tb_776)) (hts _ (mb tb_257)) (hts _ (mb tb_8)) (hts _ (mb wm_min)) (Nat.le_of_ble_eq_true rfl) (Nat.le_of_ble_eq_true rfl) (Nat.zero_le _) (Nat.zero_le _) dX3_turnInLane_123 ?_
  refine lv_iadd hx hb dX3_turnInLane_126 ?_
  refine lv_istore (lv' := [(6, .int ((c_least (1 : Int32).toNatClampNeg) + (if (2 * (v1 - c_widest)) < (2 * (v1 - c_shallowest)) then (2 * (v1 - c_widest)) else (2 * (v1 - c_shallowest))))), (5, .int (if (if (2 * (v1 - c_widest)) < (2 * (v1 - c_shallowest)) then (2 * (v1 - c_widest)) else (2 * (v1 - c_shallowest))) < (2 * c_deepest) then (if (2 * (v1 - c_widest)) < (2 * (v1 - c_shallowest)) then (2 * (v1 - c_widest)) else (2 * (v1 - c_shallowest))) else (2 * c_deepest))), (4, .int (2 * (v1 - c_widest))), (3, .int (2 * (v1 - c_shallowest))), (2, .int (2 * c_deepest)), (0, .ref a0), (1, .int v1)]) hx hb dX3_turnInLane_127 hl (by decide) rfl (fun ls hl => ?_)
  refine lv_aload_n hx hb dX3_turnInLane_129 rfl (lv_at hl 5 rfl) ?_
  refine va_get (D := D) (ci := 2) (v := .ref a_least) (C := RX3) (T := TX3) (N := 5) hx hb hts (fun w h => mb (iX3 w h)) hown hK hP 0 rfl rfl 0 (by decide) (hts _ (mb tb_236)) (fun _ h9 => h9) rfl dX3_turnInLane_130 ?_
  refine lv_iconst (v := 2) hx hb dX3_turnInLane_133 (by decide) ?_
  obtain ⟨h12, hf⟩ := ob_d hf
  refine va_iald hx hb hK hP 1 0 rfl rfl h12 dX3_turnInLane_134 ?_
  refine lv_iload_n hx hb dX3_turnInLane_135 rfl (lv_at hl 4 rfl) ?_
  refine lv_iload hx hb dX3_turnInLane_136 (lv_at hl 2 rfl) ?_
  refine va_mmin hx hb (hml.trans hl.1.symm) hown (hts _ (mb tb_776)) (hts _ (mb tb_257)) (hts _ (mb tb_8)) (hts _ (mb wm_min)) (Nat.le_of_ble_eq_true rfl) (Nat.le_of_ble_eq_true rfl) (Nat.zero_le _) (Nat.zero_le _) dX3_turnInLane_138 ?_
  refine lv_iadd hx hb dX3_turnInLane_141 ?_
  refine lv_istore (lv' := [(7, .int ((c_least (2 : Int32).toNatClampNeg) + (if (2 * (v1 - c_widest)) < (2 * c_deepest) then (2 * (v1 - c_widest)) else (2 * c_deepest)))), (6, .int ((c_least (1 : Int32).toNatClampNeg) + (if (2 * (v1 - c_widest)) < (2 * (v1 - c_shallowest)) then (2 * (v1 - c_widest)) else (2 * (v1 - c_shallowest))))), (5, .int (if (if (2 * (v1 - c_widest)) < (2 * (v1 - c_shallowest)) then (2 * (v1 - c_widest)) else (2 * (v1 - c_shallowest))) < (2 * c_deepest) then (if (2 * (v1 - c_widest)) < (2 * (v1 - c_shallowest)) then (2 * (v1 - c_widest)) else (2 * (v1 - c_shallowest))) else (2 * c_deepest))), (4, .int (2 * (v1 - c_widest))), (3, .int (2 * (v1 - c_shallowest))), (2, .int (2 * c_deepest)), (0, .ref a0), (1, .int v1)]) hx hb dX3_turnInLane_142 hl (by decide) rfl (fun ls hl => ?_)
  refine lv_aload_n hx hb dX3_turnInLane_144 rfl (lv_at hl 6 rfl) ?_
  refine va_get (D := D) (ci := 2) (v := .ref a_next) (C := RX3) (T := TX3) (N := 5) hx hb hts (fun w h => mb (iX3 w h)) hown hK hP 0 rfl rfl 1 (by decide) (hts _ (mb tb_237)) (fun _ h9 => h9) rfl dX3_turnInLane_145 ?_
  refine lv_iconst (v := 4) hx hb dX3_turnInLane_148 (by decide) ?_
  refine lv_aload_n hx hb dX3_turnInLane_149 rfl (lv_at hl 6 rfl) ?_
  refine va_get (D := D) (ci := 2) (v := .ref a_least) (C := RX3) (T := TX3) (N := 5) hx hb hts (fun w h => mb (iX3 w h)) hown hK hP 0 rfl rfl 0 (by decide) (hts _ (mb tb_236)) (fun _ h9 => h9) rfl dX3_turnInLane_150 ?_
  refine lv_iconst (v := 4) hx hb dX3_turnInLane_153 (by decide) ?_
  obtain ⟨h13, hf⟩ := ob_d hf
  refine va_iald hx hb hK hP 1 0 rfl rfl h13 dX3_turnInLane_154 ?_
  refine lv_iload hx hb dX3_turnInLane_155 (lv_at hl 2 rfl) ?_
  refine lv_iadd hx hb dX3_turnInLane_157 ?_
  refine lv_iload hx hb dX3_turnInLane_158 (lv_at hl 1 rfl) ?_
  refine lv_iload hx hb dX3_turnInLane_160 (lv_at hl 0 rfl) ?_
  refine va_mmin hx hb (hml.trans hl.1.symm) hown (hts _ (mb tb_776)) (hts _ (mb tb_257)) (hts _ (mb tb_8)) (hts _ (mb wm_min)) (Nat.le_of_ble_eq_true rfl) (Nat.le_of_ble_eq_true rfl) (Nat.zero_le _) (Nat.zero_le _) dX3_turnInLane_162 ?_
  refine va_mmin hx hb (hml.trans hl.1.symm) hown (hts _ (mb tb_776)) (hts _ (mb tb_257)) (hts _ (mb tb_8)) (hts _ (mb wm_min)) (Nat.le_of_ble_eq_true rfl) (Nat.le_of_ble_eq_true rfl) (Nat.zero_le _) (Nat.zero_le _) dX3_turnInLane_165 ?_
  obtain ⟨h14, hf⟩ := ob_d hf
  refine va_iast hx hb hK hP hD hS 2 0 rfl rfl h14 dX3_turnInLane_168 (fun H locs hP hD hS => ?_)
  have hP : va_P D vwCl [oX3 a0 a_least a_next c_deepest c_shallowest c_widest, rI cI a_least 5 c_least, rI cI a_next 5 (upd (upd (upd (upd (upd c_next (0 : Int32).toNatClampNeg (if ((c_least (0 : Int32).toNatClampNeg) + (if (if (2 * (v1 - c_widest)) < (2 * (v1 - c_shallowest)) then (2 * (v1 - c_widest)) else (2 * (v1 - c_shallowest))) < (2 * c_deepest) then (if (2 * (v1 - c_widest)) < (2 * (v1 - c_shallowest)) then (2 * (v1 - c_widest)) else (2 * (v1 - c_shallowest))) else (2 * c_deepest))) < (c_next (0 : Int32).toNatClampNeg) then ((c_least (0 : Int32).toNatClampNeg) + (if (if (2 * (v1 - c_widest)) < (2 * (v1 - c_shallowest)) then (2 * (v1 - c_widest)) else (2 * (v1 - c_shallowest))) < (2 * c_deepest) then (if (2 * (v1 - c_widest)) < (2 * (v1 - c_shallowest)) then (2 * (v1 - c_widest)) else (2 * (v1 - c_shallowest))) else (2 * c_deepest))) else (c_next (0 : Int32).toNatClampNeg))) (3 : Int32).toNatClampNeg (if ((c_least (3 : Int32).toNatClampNeg) + (if (if (2 * (v1 - c_widest)) < (2 * (v1 - c_shallowest)) then (2 * (v1 - c_widest)) else (2 * (v1 - c_shallowest))) < (2 * c_deepest) then (if (2 * (v1 - c_widest)) < (2 * (v1 - c_shallowest)) then (2 * (v1 - c_widest)) else (2 * (v1 - c_shallowest))) else (2 * c_deepest))) < ((upd c_next (0 : Int32).toNatClampNeg (if ((c_least (0 : Int32).toNatClampNeg) + (if (if (2 * (v1 - c_widest)) < (2 * (v1 - c_shallowest)) then (2 * (v1 - c_widest)) else (2 * (v1 - c_shallowest))) < (2 * c_deepest) then (if (2 * (v1 - c_widest)) < (2 * (v1 - c_shallowest)) then (2 * (v1 - c_widest)) else (2 * (v1 - c_shallowest))) else (2 * c_deepest))) < (c_next (0 : Int32).toNatClampNeg) then ((c_least (0 : Int32).toNatClampNeg) + (if (if (2 * (v1 - c_widest)) < (2 * (v1 - c_shallowest)) then (2 * (v1 - c_widest)) else (2 * (v1 - c_shallowest))) < (2 * c_deepest) then (if (2 * (v1 - c_widest)) < (2 * (v1 - c_shallowest)) then (2 * (v1 - c_widest)) else (2 * (v1 - c_shallowest))) else (2 * c_deepest))) else (c_next (0 : Int32).toNatClampNeg))) (3 : Int32).toNatClampNeg) then ((c_least (3 : Int32).toNatClampNeg) + (if (if (2 * (v1 - c_widest)) < (2 * (v1 - c_shallowest)) then (2 * (v1 - c_widest)) else (2 * (v1 - c_shallowest))) < (2 * c_deepest) then (if (2 * (v1 - c_widest)) < (2 * (v1 - c_shallowest)) then (2 * (v1 - c_widest)) else (2 * (v1 - c_shallowest))) else (2 * c_deepest))) else ((upd c_next (0 : Int32).toNatClampNeg (if ((c_least (0 : Int32).toNatClampNeg) + (if (if (2 * (v1 - c_widest)) < (2 * (v1 - c_shallowest)) then (2 * (v1 - c_widest)) else (2 * (v1 - c_shallowest))) < (2 * c_deepest) then (if (2 * (v1 - c_widest)) < (2 * (v1 - c_shallowest)) then (2 * (v1 - c_widest)) else (2 * (v1 - c_shallowest))) else (2 * c_deepest))) < (c_next (0 : Int32).toNatClampNeg) then ((c_least (0 : Int32).toNatClampNeg) + (if (if (2 * (v1 - c_widest)) < (2 * (v1 - c_shallowest)) then (2 * (v1 - c_widest)) else (2 * (v1 - c_shallowest))) < (2 * c_deepest) then (if (2 * (v1 - c_widest)) < (2 * (v1 - c_shallowest)) then (2 * (v1 - c_widest)) else (2 * (v1 - c_shallowest))) else (2 * c_deepest))) else (c_next (0 : Int32).toNatClampNeg))) (3 : Int32).toNatClampNeg))) (1 : Int32).toNatClampNeg ((c_least (1 : Int32).toNatClampNeg) + (2 * c_deepest))) (2 : Int32).toNatClampNeg ((c_least (2 : Int32).toNatClampNeg) + (2 * (v1 - c_shallowest)))) (4 : Int32).toNatClampNeg (if (if ((c_least (2 : Int32).toNatClampNeg) + (if (2 * (v1 - c_widest)) < (2 * c_deepest) then (2 * (v1 - c_widest)) else (2 * c_deepest))) < ((c_least (1 : Int32).toNatClampNeg) + (if (2 * (v1 - c_widest)) < (2 * (v1 - c_shallowest)) then (2 * (v1 - c_widest)) else (2 * (v1 - c_shallowest)))) then ((c_least (2 : Int32).toNatClampNeg) + (if (2 * (v1 - c_widest)) < (2 * c_deepest) then (2 * (v1 - c_widest)) else (2 * c_deepest))) else ((c_least (1 : Int32).toNatClampNeg) + (if (2 * (v1 - c_widest)) < (2 * (v1 - c_shallowest)) then (2 * (v1 - c_widest)) else (2 * (v1 - c_shallowest))))) < ((c_least (4 : Int32).toNatClampNeg) + (if (if (2 * (v1 - c_widest)) < (2 * (v1 - c_shallowest)) then (2 * (v1 - c_widest)) else (2 * (v1 - c_shallowest))) < (2 * c_deepest) then (if (2 * (v1 - c_widest)) < (2 * (v1 - c_shallowest)) then (2 * (v1 - c_widest)) else (2 * (v1 - c_shallowest))) else (2 * c_deepest))) then (if ((c_least (2 : Int32).toNatClampNeg) + (if (2 * (v1 - c_widest)) < (2 * c_deepest) then (2 * (v1 - c_widest)) else (2 * c_deepest))) < ((c_least (1 : Int32).toNatClampNeg) + (if (2 * (v1 - c_widest)) < (2 * (v1 - c_shallowest)) then (2 * (v1 - c_widest)) else (2 * (v1 - c_shallowest)))) then ((c_least (2 : Int32).toNatClampNeg) + (if (2 * (v1 - c_widest)) < (2 * c_deepest) then (2 * (v1 - c_widest)) else (2 * c_deepest))) else ((c_least (1 : Int32).toNatClampNeg) + (if (2 * (v1 - c_widest)) < (2 * (v1 - c_shallowest)) then (2 * (v1 - c_widest)) else (2 * (v1 - c_shallowest))))) else ((c_least (4 : Int32).toNatClampNeg) + (if (if (2 * (v1 - c_widest)) < (2 * (v1 - c_shallowest)) then (2 * (v1 - c_widest)) else (2 * (v1 - c_shallowest))) < (2 * c_deepest) then (if (2 * (v1 - c_widest)) < (2 * (v1 - c_shallowest)) then (2 * (v1 - c_widest)) else (2 * (v1 - c_shallowest))) else (2 * c_deepest)))))] H := hP
  have hD : va_D A [oX3 a0 a_least a_next c_deepest c_shallowest c_widest, rI cI a_least 5 c_least, rI cI a_next 5 (upd (upd (upd (upd (upd c_next (0 : Int32).toNatClampNeg (if ((c_least (0 : Int32).toNatClampNeg) + (if (if (2 * (v1 - c_widest)) < (2 * (v1 - c_shallowest)) then (2 * (v1 - c_widest)) else (2 * (v1 - c_shallowest))) < (2 * c_deepest) then (if (2 * (v1 - c_widest)) < (2 * (v1 - c_shallowest)) then (2 * (v1 - c_widest)) else (2 * (v1 - c_shallowest))) else (2 * c_deepest))) < (c_next (0 : Int32).toNatClampNeg) then ((c_least (0 : Int32).toNatClampNeg) + (if (if (2 * (v1 - c_widest)) < (2 * (v1 - c_shallowest)) then (2 * (v1 - c_widest)) else (2 * (v1 - c_shallowest))) < (2 * c_deepest) then (if (2 * (v1 - c_widest)) < (2 * (v1 - c_shallowest)) then (2 * (v1 - c_widest)) else (2 * (v1 - c_shallowest))) else (2 * c_deepest))) else (c_next (0 : Int32).toNatClampNeg))) (3 : Int32).toNatClampNeg (if ((c_least (3 : Int32).toNatClampNeg) + (if (if (2 * (v1 - c_widest)) < (2 * (v1 - c_shallowest)) then (2 * (v1 - c_widest)) else (2 * (v1 - c_shallowest))) < (2 * c_deepest) then (if (2 * (v1 - c_widest)) < (2 * (v1 - c_shallowest)) then (2 * (v1 - c_widest)) else (2 * (v1 - c_shallowest))) else (2 * c_deepest))) < ((upd c_next (0 : Int32).toNatClampNeg (if ((c_least (0 : Int32).toNatClampNeg) + (if (if (2 * (v1 - c_widest)) < (2 * (v1 - c_shallowest)) then (2 * (v1 - c_widest)) else (2 * (v1 - c_shallowest))) < (2 * c_deepest) then (if (2 * (v1 - c_widest)) < (2 * (v1 - c_shallowest)) then (2 * (v1 - c_widest)) else (2 * (v1 - c_shallowest))) else (2 * c_deepest))) < (c_next (0 : Int32).toNatClampNeg) then ((c_least (0 : Int32).toNatClampNeg) + (if (if (2 * (v1 - c_widest)) < (2 * (v1 - c_shallowest)) then (2 * (v1 - c_widest)) else (2 * (v1 - c_shallowest))) < (2 * c_deepest) then (if (2 * (v1 - c_widest)) < (2 * (v1 - c_shallowest)) then (2 * (v1 - c_widest)) else (2 * (v1 - c_shallowest))) else (2 * c_deepest))) else (c_next (0 : Int32).toNatClampNeg))) (3 : Int32).toNatClampNeg) then ((c_least (3 : Int32).toNatClampNeg) + (if (if (2 * (v1 - c_widest)) < (2 * (v1 - c_shallowest)) then (2 * (v1 - c_widest)) else (2 * (v1 - c_shallowest))) < (2 * c_deepest) then (if (2 * (v1 - c_widest)) < (2 * (v1 - c_shallowest)) then (2 * (v1 - c_widest)) else (2 * (v1 - c_shallowest))) else (2 * c_deepest))) else ((upd c_next (0 : Int32).toNatClampNeg (if ((c_least (0 : Int32).toNatClampNeg) + (if (if (2 * (v1 - c_widest)) < (2 * (v1 - c_shallowest)) then (2 * (v1 - c_widest)) else (2 * (v1 - c_shallowest))) < (2 * c_deepest) then (if (2 * (v1 - c_widest)) < (2 * (v1 - c_shallowest)) then (2 * (v1 - c_widest)) else (2 * (v1 - c_shallowest))) else (2 * c_deepest))) < (c_next (0 : Int32).toNatClampNeg) then ((c_least (0 : Int32).toNatClampNeg) + (if (if (2 * (v1 - c_widest)) < (2 * (v1 - c_shallowest)) then (2 * (v1 - c_widest)) else (2 * (v1 - c_shallowest))) < (2 * c_deepest) then (if (2 * (v1 - c_widest)) < (2 * (v1 - c_shallowest)) then (2 * (v1 - c_widest)) else (2 * (v1 - c_shallowest))) else (2 * c_deepest))) else (c_next (0 : Int32).toNatClampNeg))) (3 : Int32).toNatClampNeg))) (1 : Int32).toNatClampNeg ((c_least (1 : Int32).toNatClampNeg) + (2 * c_deepest))) (2 : Int32).toNatClampNeg ((c_least (2 : Int32).toNatClampNeg) + (2 * (v1 - c_shallowest)))) (4 : Int32).toNatClampNeg (if (if ((c_least (2 : Int32).toNatClampNeg) + (if (2 * (v1 - c_widest)) < (2 * c_deepest) then (2 * (v1 - c_widest)) else (2 * c_deepest))) < ((c_least (1 : Int32).toNatClampNeg) + (if (2 * (v1 - c_widest)) < (2 * (v1 - c_shallowest)) then (2 * (v1 - c_widest)) else (2 * (v1 - c_shallowest)))) then ((c_least (2 : Int32).toNatClampNeg) + (if (2 * (v1 - c_widest)) < (2 * c_deepest) then (2 * (v1 - c_widest)) else (2 * c_deepest))) else ((c_least (1 : Int32).toNatClampNeg) + (if (2 * (v1 - c_widest)) < (2 * (v1 - c_shallowest)) then (2 * (v1 - c_widest)) else (2 * (v1 - c_shallowest))))) < ((c_least (4 : Int32).toNatClampNeg) + (if (if (2 * (v1 - c_widest)) < (2 * (v1 - c_shallowest)) then (2 * (v1 - c_widest)) else (2 * (v1 - c_shallowest))) < (2 * c_deepest) then (if (2 * (v1 - c_widest)) < (2 * (v1 - c_shallowest)) then (2 * (v1 - c_widest)) else (2 * (v1 - c_shallowest))) else (2 * c_deepest))) then (if ((c_least (2 : Int32).toNatClampNeg) + (if (2 * (v1 - c_widest)) < (2 * c_deepest) then (2 * (v1 - c_widest)) else (2 * c_deepest))) < ((c_least (1 : Int32).toNatClampNeg) + (if (2 * (v1 - c_widest)) < (2 * (v1 - c_shallowest)) then (2 * (v1 - c_widest)) else (2 * (v1 - c_shallowest)))) then ((c_least (2 : Int32).toNatClampNeg) + (if (2 * (v1 - c_widest)) < (2 * c_deepest) then (2 * (v1 - c_widest)) else (2 * c_deepest))) else ((c_least (1 : Int32).toNatClampNeg) + (if (2 * (v1 - c_widest)) < (2 * (v1 - c_shallowest)) then (2 * (v1 - c_widest)) else (2 * (v1 - c_shallowest))))) else ((c_least (4 : Int32).toNatClampNeg) + (if (if (2 * (v1 - c_widest)) < (2 * (v1 - c_shallowest)) then (2 * (v1 - c_widest)) else (2 * (v1 - c_shallowest))) < (2 * c_deepest) then (if (2 * (v1 - c_widest)) < (2 * (v1 - c_shallowest)) then (2 * (v1 - c_widest)) else (2 * (v1 - c_shallowest))) else (2 * c_deepest)))))] := hD
  cases hf
  refine W.widen (k := 0) (n := 0) (Nat.le_of_ble_eq_true rfl) (Nat.le_of_ble_eq_true rfl) ?_
  exact W.vret hx hb hr (fun t ht hW => ⟨⟨(), rfl, trivial, (by show va_P D vwCl _ t.heap; rw [ht]; exact hP)⟩, hS.F ht⟩) hS.2.2 dX3_turnInLane_169
def f_X3_walkLane_J123 (c_deepest : Int32) (c_shallowest : Int32) (c_widest : Int32) (c_least : Nat → Int32) (c_next : Nat → Int32) : Option ((Nat → Int32) × (Nat → Int32)) :=
  bnd1 (f_X3_takeNext c_least c_next) (fun o18 =>
  (some (o18, c_next)))
def f_X3_walkLane (v1 : Int32) (c_deepest : Int32) (c_shallowest : Int32) (c_widest : Int32) (c_least : Nat → Int32) (c_next : Nat → Int32) : Option ((Nat → Int32) × (Nat → Int32)) :=
  gd 1 5 (gd 2 5 (gd 3 5 (gd 4 5 (gd 0 5 (gd 0 5 (gd 0 5 (gd 3 5 (gd 1 5 (gd 2 5 (gd 4 5 ((if c_deepest = 0 then bnd1 (f_X3_skipLane c_least (upd (upd (upd (upd (upd c_next (0 : Int32).toNatClampNeg (if ((c_least (0 : Int32).toNatClampNeg) + (2 * v1)) < ((if (if (c_least (4 : Int32).toNatClampNeg) < (c_least (3 : Int32).toNatClampNeg) then (c_least (4 : Int32).toNatClampNeg) else (c_least (3 : Int32).toNatClampNeg)) < (if (c_least (2 : Int32).toNatClampNeg) < (c_least (1 : Int32).toNatClampNeg) then (c_least (2 : Int32).toNatClampNeg) else (c_least (1 : Int32).toNatClampNeg)) then (if (c_least (4 : Int32).toNatClampNeg) < (c_least (3 : Int32).toNatClampNeg) then (c_least (4 : Int32).toNatClampNeg) else (c_least (3 : Int32).toNatClampNeg)) else (if (c_least (2 : Int32).toNatClampNeg) < (c_least (1 : Int32).toNatClampNeg) then (c_least (2 : Int32).toNatClampNeg) else (c_least (1 : Int32).toNatClampNeg))) + v1) then ((c_least (0 : Int32).toNatClampNeg) + (2 * v1)) else ((if (if (c_least (4 : Int32).toNatClampNeg) < (c_least (3 : Int32).toNatClampNeg) then (c_least (4 : Int32).toNatClampNeg) else (c_least (3 : Int32).toNatClampNeg)) < (if (c_least (2 : Int32).toNatClampNeg) < (c_least (1 : Int32).toNatClampNeg) then (c_least (2 : Int32).toNatClampNeg) else (c_least (1 : Int32).toNatClampNeg)) then (if (c_least (4 : Int32).toNatClampNeg) < (c_least (3 : Int32).toNatClampNeg) then (c_least (4 : Int32).toNatClampNeg) else (c_least (3 : Int32).toNatClampNeg)) else (if (c_least (2 : Int32).toNatClampNeg) < (c_least (1 : Int32).toNatClampNeg) then (c_least (2 : Int32).toNatClampNeg) else (c_least (1 : Int32).toNatClampNeg))) + v1))) (3 : Int32).toNatClampNeg (if ((c_least (0 : Int32).toNatClampNeg) + v1) < ((if (if (c_least (4 : Int32).toNatClampNeg) < (c_least (3 : Int32).toNatClampNeg) then (c_least (4 : Int32).toNatClampNeg) else (c_least (3 : Int32).toNatClampNeg)) < (if (c_least (2 : Int32).toNatClampNeg) < (c_least (1 : Int32).toNatClampNeg) then (c_least (2 : Int32).toNatClampNeg) else (c_least (1 : Int32).toNatClampNeg)) then (if (c_least (4 : Int32).toNatClampNeg) < (c_least (3 : Int32).toNatClampNeg) then (c_least (4 : Int32).toNatClampNeg) else (c_least (3 : Int32).toNatClampNeg)) else (if (c_least (2 : Int32).toNatClampNeg) < (c_least (1 : Int32).toNatClampNeg) then (c_least (2 : Int32).toNatClampNeg) else (c_least (1 : Int32).toNatClampNeg))) + (2 * v1)) then ((c_least (0 : Int32).toNatClampNeg) + v1) else ((if (if (c_least (4 : Int32).toNatClampNeg) < (c_least (3 : Int32).toNatClampNeg) then (c_least (4 : Int32).toNatClampNeg) else (c_least (3 : Int32).toNatClampNeg)) < (if (c_least (2 : Int32).toNatClampNeg) < (c_least (1 : Int32).toNatClampNeg) then (c_least (2 : Int32).toNatClampNeg) else (c_least (1 : Int32).toNatClampNeg)) then (if (c_least (4 : Int32).toNatClampNeg) < (c_least (3 : Int32).toNatClampNeg) then (c_least (4 : Int32).toNatClampNeg) else (c_least (3 : Int32).toNatClampNeg)) else (if (c_least (2 : Int32).toNatClampNeg) < (c_least (1 : Int32).toNatClampNeg) then (c_least (2 : Int32).toNatClampNeg) else (c_least (1 : Int32).toNatClampNeg))) + (2 * v1)))) (1 : Int32).toNatClampNeg 1000000) (2 : Int32).toNatClampNeg 1000000) (4 : Int32).toNatClampNeg 1000000)) (fun o21 =>
  (f_X3_walkLane_J123 c_deepest c_shallowest c_widest c_least o21))
  else bnd1 (f_X3_turnInLane v1 c_deepest c_shallowest c_widest c_least (upd (upd (upd (upd (upd c_next (0 : Int32).toNatClampNeg (if ((c_least (0 : Int32).toNatClampNeg) + (2 * v1)) < ((if (if (c_least (4 : Int32).toNatClampNeg) < (c_least (3 : Int32).toNatClampNeg) then (c_least (4 : Int32).toNatClampNeg) else (c_least (3 : Int32).toNatClampNeg)) < (if (c_least (2 : Int32).toNatClampNeg) < (c_least (1 : Int32).toNatClampNeg) then (c_least (2 : Int32).toNatClampNeg) else (c_least (1 : Int32).toNatClampNeg)) then (if (c_least (4 : Int32).toNatClampNeg) < (c_least (3 : Int32).toNatClampNeg) then (c_least (4 : Int32).toNatClampNeg) else (c_least (3 : Int32).toNatClampNeg)) else (if (c_least (2 : Int32).toNatClampNeg) < (c_least (1 : Int32).toNatClampNeg) then (c_least (2 : Int32).toNatClampNeg) else (c_least (1 : Int32).toNatClampNeg))) + v1) then ((c_least (0 : Int32).toNatClampNeg) + (2 * v1)) else ((if (if (c_least (4 : Int32).toNatClampNeg) < (c_least (3 : Int32).toNatClampNeg) then (c_least (4 : Int32).toNatClampNeg) else (c_least (3 : Int32).toNatClampNeg)) < (if (c_least (2 : Int32).toNatClampNeg) < (c_least (1 : Int32).toNatClampNeg) then (c_least (2 : Int32).toNatClampNeg) else (c_least (1 : Int32).toNatClampNeg)) then (if (c_least (4 : Int32).toNatClampNeg) < (c_least (3 : Int32).toNatClampNeg) then (c_least (4 : Int32).toNatClampNeg) else (c_least (3 : Int32).toNatClampNeg)) else (if (c_least (2 : Int32).toNatClampNeg) < (c_least (1 : Int32).toNatClampNeg) then (c_least (2 : Int32).toNatClampNeg) else (c_least (1 : Int32).toNatClampNeg))) + v1))) (3 : Int32).toNatClampNeg (if ((c_least (0 : Int32).toNatClampNeg) + v1) < ((if (if (c_least (4 : Int32).toNatClampNeg) < (c_least (3 : Int32).toNatClampNeg) then (c_least (4 : Int32).toNatClampNeg) else (c_least (3 : Int32).toNatClampNeg)) < (if (c_least (2 : Int32).toNatClampNeg) < (c_least (1 : Int32).toNatClampNeg) then (c_least (2 : Int32).toNatClampNeg) else (c_least (1 : Int32).toNatClampNeg)) then (if (c_least (4 : Int32).toNatClampNeg) < (c_least (3 : Int32).toNatClampNeg) then (c_least (4 : Int32).toNatClampNeg) else (c_least (3 : Int32).toNatClampNeg)) else (if (c_least (2 : Int32).toNatClampNeg) < (c_least (1 : Int32).toNatClampNeg) then (c_least (2 : Int32).toNatClampNeg) else (c_least (1 : Int32).toNatClampNeg))) + (2 * v1)) then ((c_least (0 : Int32).toNatClampNeg) + v1) else ((if (if (c_least (4 : Int32).toNatClampNeg) < (c_least (3 : Int32).toNatClampNeg) then (c_least (4 : Int32).toNatClampNeg) else (c_least (3 : Int32).toNatClampNeg)) < (if (c_least (2 : Int32).toNatClampNeg) < (c_least (1 : Int32).toNatClampNeg) then (c_least (2 : Int32).toNatClampNeg) else (c_least (1 : Int32).toNatClampNeg)) then (if (c_least (4 : Int32).toNatClampNeg) < (c_least (3 : Int32).toNatClampNeg) then (c_least (4 : Int32).toNatClampNeg) else (c_least (3 : Int32).toNatClampNeg)) else (if (c_least (2 : Int32).toNatClampNeg) < (c_least (1 : Int32).toNatClampNeg) then (c_least (2 : Int32).toNatClampNeg) else (c_least (1 : Int32).toNatClampNeg))) + (2 * v1)))) (1 : Int32).toNatClampNeg 1000000) (2 : Int32).toNatClampNeg 1000000) (4 : Int32).toNatClampNeg 1000000)) (fun o15 =>
  (f_X3_walkLane_J123 c_deepest c_shallowest c_widest c_least o15))))))))))))))
set_option maxHeartbeats 4000000 in
set_option maxRecDepth 100000 in
theorem k_X3_walkLane (l : Launch) (hl0 : l.stackTraces = false) (D : va_G) (cI cJ cZ cS : ClassId) (B0 : Nat) (sz : Nat) (a0 a_least a_next : Nat) (c_deepest : Int32) (c_shallowest : Int32) (c_widest : Int32) (c_least : Nat → Int32) (c_next : Nat → Int32) (v1 : Int32) (oc_least : Nat → Int32) (oc_next : Nat → Int32)  (hf : f_X3_walkLane v1 c_deepest c_shallowest c_widest c_least c_next = some (oc_least, oc_next)) : Met l yX3_walkLane (wz yX3_walkLane cX3_walkLane 4 none) ({ frames := 2, cells := 0, slots := 0, locals := 67 }) (va_Pc [.ref a0, .int v1] (wp D cI cJ cZ cS B0 [oX3 a0 a_least a_next c_deepest c_shallowest c_widest, rI cI a_least 5 c_least, rI cI a_next 5 c_next] sz)) (va_Qv (fun (_ : Unit) => True) (fun _ t => va_P D vwCl [oX3 a0 a_least a_next c_deepest c_shallowest c_widest, rI cI a_least 5 oc_least, rI cI a_next 5 oc_next] t.heap) (va_A [oX3 a0 a_least a_next c_deepest c_shallowest c_widest, rI cI a_least 5 c_least, rI cI a_next 5 c_next] sz)) 0 0 (va_A [oX3 a0 a_least a_next c_deepest c_shallowest c_widest, rI cI a_least 5 c_least, rI cI a_next 5 c_next] sz) := by
  refine Met.ofW (cc := cX3_walkLane) (maxL := 4) (ret := none) (by decide) rfl ?_
  intro p e s m args below meth c s₁ B hml hv
  obtain ⟨rfl, hsz, hP, hK, hD0, hB0, hE⟩ := hv
  subst hsz
  have hx := B.exec
  have hb := B.bytes
  have hr := B.returns
  have hts := atoms_spec (ws := (wz yX3_walkLane cX3_walkLane 4 none)) B.pre
  have hown : s.vm.findClass RX3 = some m.cls := findClass_of_methodNamed B.named
  have hlocks := B.notSynchronized
  have hD := hD0.self (sz := s.heap.size)
  have hAB : ∀ q : Nat, va_A [oX3 a0 a_least a_next c_deepest c_shallowest c_widest, rI cI a_least 5 c_least, rI cI a_next 5 c_next] s.heap.size q → B0 ≤ q := va_A_B hD0 hB0
  generalize hAe : va_A [oX3 a0 a_least a_next c_deepest c_shallowest c_widest, rI cI a_least 5 c_least, rI cI a_next 5 c_next] s.heap.size = A at hD hAB ⊢
  have hA : ∀ q : Nat, s.heap.size ≤ q → A q := fun q h => by rw [← hAe]; exact Or.inr h
  have hFa := hA
  have hS : va_S A s.heap s.heap [] := va_S.rf
  have hBn := fun (H : Heap) (locs : List Loc) (h : va_S A s.heap H locs) => Nat.le_trans hB0 h.1
  have hEn := fun (H : Heap) (locs : List Loc) (h : va_S A s.heap H locs) => gE_now hE h hAB
  have hl := lv_entry ([.ref a0, .int v1]) (n := 4) (Nat.le_of_ble_eq_true rfl)
  rw [lg_entry_eq]
  generalize (lg_sl ([.ref a0, .int v1]) ++ List.replicate (4 - (lg_sl ([.ref a0, .int v1])).length) Slot.unset).toArray = ls at hl ⊢
  have hl : lv_has ls 4 [(0, .ref a0), (1, .int v1)] := hl
  obtain ⟨H, hHe⟩ : ∃ H : Heap, H = s.heap := ⟨_, rfl⟩
  have hP : va_P D vwCl [oX3 a0 a_least a_next c_deepest c_shallowest c_widest, rI cI a_least 5 c_least, rI cI a_next 5 c_next] H := by rw [hHe]; exact hP
  have hS : va_S A s.heap H [] := by rw [hHe]; exact hS
  refine W_heq hHe ?_
  unfold f_X3_walkLane at hf
  refine gen_goW (fun WW hWW => ?_)
  have hJ123 : ∀ (c_least : Nat → Int32) (c_next : Nat → Int32), f_X3_walkLane_J123 c_deepest c_shallowest c_widest c_least c_next = some (oc_least, oc_next) → ∀ (H : Heap) (locs : List Loc) (ls : Array Slot), va_P D vwCl [oX3 a0 a_least a_next c_deepest c_shallowest c_widest, rI cI a_least 5 c_least, rI cI a_next 5 c_next] H → va_D A [oX3 a0 a_least a_next c_deepest c_shallowest c_widest, rI cI a_least 5 c_least, rI cI a_next 5 c_next] → va_S A s.heap H locs → lv_has ls 4 [(0, .ref a0)] → WW H locs 0 0 (F0 m 123 ls []) := by
    intro c_least c_next hf H locs ls hP hD hS hl
    unfold f_X3_walkLane_J123 at hf
    refine (hWW _ _ _ _ _).mpr ?_
    refine lv_aload_n hx hb dX3_walkLane_123 rfl (lv_at hl 0 rfl) ?_
    obtain ⟨o18, hc17, hf⟩ := ob1 hf
    refine rw_callv (va_runV (As := []) (rest := []) ⟨hx, hb, hml, hown, hts⟩ (k_X3_takeNext l hl0 D cI cJ cZ cS B0 H.size a0 a_least a_next c_deepest c_shallowest c_widest c_least c_next o18 hc17) (cwV 0 hts (gV tb_777 tb_779 ts_23 tb_7 tb_780) rfl rfl rfl (by decide +kernel) ⟨Nat.le_of_ble_eq_true rfl, Nat.le_of_ble_eq_true rfl⟩) ⟨wp_blind, va_recv hK hP (ci := 2) (q0 := 0) rfl rfl, wp_pre (hP.sub [0, 1, 2] rfl) hK (va_D.sub (hD.weaken (fun _ _ _ h9 => hAB _ h9)) [0, 1, 2] rfl rfl) (hBn _ _ hS) (hEn _ _ hS)⟩ rfl rfl hl.1 rfl (lv_room (Nat.le_of_ble_eq_true rfl)) dX3_walkLane_124 ⟨Nat.le_of_ble_eq_true rfl, Nat.le_of_ble_eq_true rfl⟩) hP hD hS hA [oX3 a0 a_least a_next c_deepest c_shallowest c_widest, rI cI a_least 5 o18, rI cI a_next 5 c_next] 3 [0, 1, 2] [] rfl rfl rfl rfl (by decide +kernel) rfl (fun H locs hP hD hS => ?_)
    cases hf
    refine W.widen (k := 0) (n := 0) (Nat.le_of_ble_eq_true rfl) (Nat.le_of_ble_eq_true rfl) ?_
    exact W.vret hx hb hr (fun t ht hW => ⟨⟨(), rfl, trivial, (by show va_P D vwCl _ t.heap; rw [ht]; exact hP)⟩, hS.F ht⟩) hS.2.2 dX3_walkLane_127
  refine (hWW _ _ _ _ _).mpr ?_
  refine lv_aload_n hx hb dX3_walkLane_0 rfl (lv_at hl 0 rfl) ?_
  refine va_get (D := D) (ci := 2) (v := .ref a_least) (C := RX3) (T := TX3) (N := 5) hx hb hts (fun w h => mb (iX3 w h)) hown hK hP 0 rfl rfl 0 (by decide) (hts _ (mb tb_236)) (fun _ h9 => h9) rfl dX3_walkLane_1 ?_
  refine lv_iconst (v := 1) hx hb dX3_walkLane_4 (by decide) ?_
  obtain ⟨h1, hf⟩ := ob_d hf
  refine va_iald hx hb hK hP 1 0 rfl rfl h1 dX3_walkLane_5 ?_
  refine lv_aload_n hx hb dX3_walkLane_6 rfl (lv_at hl 0 rfl) ?_
  refine va_get (D := D) (ci := 2) (v := .ref a_least) (C := RX3) (T := TX3) (N := 5) hx hb hts (fun w h => mb (iX3 w h)) hown hK hP 0 rfl rfl 0 (by decide) (hts _ (mb tb_236)) (fun _ h9 => h9) rfl dX3_walkLane_7 ?_
  refine lv_iconst (v := 2) hx hb dX3_walkLane_10 (by decide) ?_
  obtain ⟨h2, hf⟩ := ob_d hf
  refine va_iald hx hb hK hP 1 0 rfl rfl h2 dX3_walkLane_11 ?_
  refine va_mmin hx hb (hml.trans hl.1.symm) hown (hts _ (mb tb_776)) (hts _ (mb tb_257)) (hts _ (mb tb_8)) (hts _ (mb wm_min)) (Nat.le_of_ble_eq_true rfl) (Nat.le_of_ble_eq_true rfl) (Nat.zero_le _) (Nat.zero_le _) dX3_walkLane_12 ?_
  refine lv_istore_n (lv' := [(2, .int (if (c_least (2 : Int32).toNatClampNeg) < (c_least (1 : Int32).toNatClampNeg) then (c_least (2 : Int32).toNatClampNeg) else (c_least (1 : Int32).toNatClampNeg))), (0, .ref a0), (1, .int v1)]) hx hb dX3_walkLane_15 rfl hl (by decide) rfl (fun ls hl => ?_)
  refine lv_iload_n hx hb dX3_walkLane_16 rfl (lv_at hl 0 rfl) ?_
  refine lv_aload_n hx hb dX3_walkLane_17 rfl (lv_at hl 1 rfl) ?_
  refine va_get (D := D) (ci := 2) (v := .ref a_least) (C := RX3) (T := TX3) (N := 5) hx hb hts (fun w h => mb (iX3 w h)) hown hK hP 0 rfl rfl 0 (by decide) (hts _ (mb tb_236)) (fun _ h9 => h9) rfl dX3_walkLane_18 ?_
  refine lv_iconst (v := 3) hx hb dX3_walkLane_21 (by decide) ?_
  obtain ⟨h3, hf⟩ := ob_d hf
  refine va_iald hx hb hK hP 1 0 rfl rfl h3 dX3_walkLane_22 ?_
  refine lv_aload_n hx hb dX3_walkLane_23 rfl (lv_at hl 1 rfl) ?_
  refine va_get (D := D) (ci := 2) (v := .ref a_least) (C := RX3) (T := TX3) (N := 5) hx hb hts (fun w h => mb (iX3 w h)) hown hK hP 0 rfl rfl 0 (by decide) (hts _ (mb tb_236)) (fun _ h9 => h9) rfl dX3_walkLane_24 ?_
  refine lv_iconst (v := 4) hx hb dX3_walkLane_27 (by decide) ?_
  obtain ⟨h4, hf⟩ := ob_d hf
  refine va_iald hx hb hK hP 1 0 rfl rfl h4 dX3_walkLane_28 ?_
  refine va_mmin hx hb (hml.trans hl.1.symm) hown (hts _ (mb tb_776)) (hts _ (mb tb_257)) (hts _ (mb tb_8)) (hts _ (mb wm_min)) (Nat.le_of_ble_eq_true rfl) (Nat.le_of_ble_eq_true rfl) (Nat.zero_le _) (Nat.zero_le _) dX3_walkLane_29 ?_
  refine va_mmin hx hb (hml.trans hl.1.symm) hown (hts _ (mb tb_776)) (hts _ (mb tb_257)) (hts _ (mb tb_8)) (hts _ (mb wm_min)) (Nat.le_of_ble_eq_true rfl) (Nat.le_of_ble_eq_true rfl) (Nat.zero_le _) (Nat.zero_le _) dX3_walkLane_32 ?_
  refine lv_istore_n (lv' := [(3, .int (if (if (c_least (4 : Int32).toNatClampNeg) < (c_least (3 : Int32).toNatClampNeg) then (c_least (4 : Int32).toNatClampNeg) else (c_least (3 : Int32).toNatClampNeg)) < (if (c_least (2 : Int32).toNatClampNeg) < (c_least (1 : Int32).toNatClampNeg) then (c_least (2 : Int32).toNatClampNeg) else (c_least (1 : Int32).toNatClampNeg)) then (if (c_least (4 : Int32).toNatClampNeg) < (c_least (3 : Int32).toNatClampNeg) then (c_least (4 : Int32).toNatClampNeg) else (c_least (3 : Int32).toNatClampNeg)) else (if (c_least (2 : Int32).toNatClampNeg) < (c_least (1 : Int32).toNatClampNeg) then (c_least (2 : Int32).toNatClampNeg) else (c_least (1 : Int32).toNatClampNeg)))), (2, .int (if (c_least (2 : Int32).toNatClampNeg) < (c_least (1 : Int32).toNatClampNeg) then (c_least (2 : Int32).toNatClampNeg) else (c_least (1 : Int32).toNatClampNeg))), (0, .ref a0), (1, .int v1)]) hx hb dX3_walkLane_35 rfl hl (by decide) rfl (fun ls hl => ?_)
  refine lv_aload_n hx hb dX3_walkLane_36 rfl (lv_at hl 2 rfl) ?_
  refine va_get (D := D) (ci := 2) (v := .ref a_next) (C := RX3) (T := TX3) (N := 5) hx hb hts (fun w h => mb (iX3 w h)) hown hK hP 0 rfl rfl 1 (by decide) (hts _ (mb tb_237)) (fun _ h9 => h9) rfl dX3_walkLane_37 ?_
  refine lv_iconst (v := 0) hx hb dX3_walkLane_40 (by decide) ?_
  refine lv_iload_n hx hb dX3_walkLane_41 rfl (lv_at hl 0 rfl) ?_
  refine lv_iload_n hx hb dX3_walkLane_42 rfl (lv_at hl 3 rfl) ?_
  refine lv_iadd hx hb dX3_walkLane_43 ?_
  refine lv_aload_n hx hb dX3_walkLane_44 rfl (lv_at hl 2 rfl) ?_
  refine va_get (D := D) (ci := 2) (v := .ref a_least) (C := RX3) (T := TX3) (N := 5) hx hb hts (fun w h => mb (iX3 w h)) hown hK hP 0 rfl rfl 0 (by decide) (hts _ (mb tb_236)) (fun _ h9 => h9) rfl dX3_walkLane_45 ?_
  refine lv_iconst (v := 0) hx hb dX3_walkLane_48 (by decide) ?_
  obtain ⟨h5, hf⟩ := ob_d hf
  refine va_iald hx hb hK hP 1 0 rfl rfl h5 dX3_walkLane_49 ?_
  refine lv_iconst (v := 2) hx hb dX3_walkLane_50 (by decide) ?_
  refine lv_iload_n hx hb dX3_walkLane_51 rfl (lv_at hl 3 rfl) ?_
  refine lv_imul hx hb dX3_walkLane_52 ?_
  refine lv_iadd hx hb dX3_walkLane_53 ?_
  refine va_mmin hx hb (hml.trans hl.1.symm) hown (hts _ (mb tb_776)) (hts _ (mb tb_257)) (hts _ (mb tb_8)) (hts _ (mb wm_min)) (Nat.le_of_ble_eq_true rfl) (Nat.le_of_ble_eq_true rfl) (Nat.zero_le _) (Nat.zero_le _) dX3_walkLane_54 ?_
  obtain ⟨h6, hf⟩ := ob_d hf
  refine va_iast hx hb hK hP hD hS 2 0 rfl rfl h6 dX3_walkLane_57 (fun H locs hP hD hS => ?_)
  have hP : va_P D vwCl [oX3 a0 a_least a_next c_deepest c_shallowest c_widest, rI cI a_least 5 c_least, rI cI a_next 5 (upd c_next (0 : Int32).toNatClampNeg (if ((c_least (0 : Int32).toNatClampNeg) + (2 * v1)) < ((if (if (c_least (4 : Int32).toNatClampNeg) < (c_least (3 : Int32).toNatClampNeg) then (c_least (4 : Int32).toNatClampNeg) else (c_least (3 : Int32).toNatClampNeg)) < (if (c_least (2 : Int32).toNatClampNeg) < (c_least (1 : Int32).toNatClampNeg) then (c_least (2 : Int32).toNatClampNeg) else (c_least (1 : Int32).toNatClampNeg)) then (if (c_least (4 : Int32).toNatClampNeg) < (c_least (3 : Int32).toNatClampNeg) then (c_least (4 : Int32).toNatClampNeg) else (c_least (3 : Int32).toNatClampNeg)) else (if (c_least (2 : Int32).toNatClampNeg) < (c_least (1 : Int32).toNatClampNeg) then (c_least (2 : Int32).toNatClampNeg) else (c_least (1 : Int32).toNatClampNeg))) + v1) then ((c_least (0 : Int32).toNatClampNeg) + (2 * v1)) else ((if (if (c_least (4 : Int32).toNatClampNeg) < (c_least (3 : Int32).toNatClampNeg) then (c_least (4 : Int32).toNatClampNeg) else (c_least (3 : Int32).toNatClampNeg)) < (if (c_least (2 : Int32).toNatClampNeg) < (c_least (1 : Int32).toNatClampNeg) then (c_least (2 : Int32).toNatClampNeg) else (c_least (1 : Int32).toNatClampNeg)) then (if (c_least (4 : Int32).toNatClampNeg) < (c_least (3 : Int32).toNatClampNeg) then (c_least (4 : Int32).toNatClampNeg) else (c_least (3 : Int32).toNatClampNeg)) else (if (c_least (2 : Int32).toNatClampNeg) < (c_least (1 : Int32).toNatClampNeg) then (c_least (2 : Int32).toNatClampNeg) else (c_least (1 : Int32).toNatClampNeg))) + v1)))] H := hP
  have hD : va_D A [oX3 a0 a_least a_next c_deepest c_shallowest c_widest, rI cI a_least 5 c_least, rI cI a_next 5 (upd c_next (0 : Int32).toNatClampNeg (if ((c_least (0 : Int32).toNatClampNeg) + (2 * v1)) < ((if (if (c_least (4 : Int32).toNatClampNeg) < (c_least (3 : Int32).toNatClampNeg) then (c_least (4 : Int32).toNatClampNeg) else (c_least (3 : Int32).toNatClampNeg)) < (if (c_least (2 : Int32).toNatClampNeg) < (c_least (1 : Int32).toNatClampNeg) then (c_least (2 : Int32).toNatClampNeg) else (c_least (1 : Int32).toNatClampNeg)) then (if (c_least (4 : Int32).toNatClampNeg) < (c_least (3 : Int32).toNatClampNeg) then (c_least (4 : Int32).toNatClampNeg) else (c_least (3 : Int32).toNatClampNeg)) else (if (c_least (2 : Int32).toNatClampNeg) < (c_least (1 : Int32).toNatClampNeg) then (c_least (2 : Int32).toNatClampNeg) else (c_least (1 : Int32).toNatClampNeg))) + v1) then ((c_least (0 : Int32).toNatClampNeg) + (2 * v1)) else ((if (if (c_least (4 : Int32).toNatClampNeg) < (c_least (3 : Int32).toNatClampNeg) then (c_least (4 : Int32).toNatClampNeg) else (c_least (3 : Int32).toNatClampNeg)) < (if (c_least (2 : Int32).toNatClampNeg) < (c_least (1 : Int32).toNatClampNeg) then (c_least (2 : Int32).toNatClampNeg) else (c_least (1 : Int32).toNatClampNeg)) then (if (c_least (4 : Int32).toNatClampNeg) < (c_least (3 : Int32).toNatClampNeg) then (c_least (4 : Int32).toNatClampNeg) else (c_least (3 : Int32).toNatClampNeg)) else (if (c_least (2 : Int32).toNatClampNeg) < (c_least (1 : Int32).toNatClampNeg) then (c_least (2 : Int32).toNatClampNeg) else (c_least (1 : Int32).toNatClampNeg))) + v1)))] := hD
  refine lv_aload_n hx hb dX3_walkLane_58 rfl (lv_at hl 2 rfl) ?_
  refine va_get (D := D) (ci := 2) (v := .ref a_next) (C := RX3) (T := TX3) (N := 5) hx hb hts (fun w h => mb (iX3 w h)) hown hK hP 0 rfl rfl 1 (by decide) (hts _ (mb tb_237)) (fun _ h9 => h9) rfl dX3_walkLane_59 ?_
  refine lv_iconst (v := 3) hx hb dX3_walkLane_62 (by decide) ?_
  refine lv_iload_n hx hb dX3_walkLane_63 rfl (lv_at hl 0 rfl) ?_
  refine lv_iconst (v := 2) hx hb dX3_walkLane_64 (by decide) ?_
  refine lv_iload_n hx hb dX3_walkLane_65 rfl (lv_at hl 3 rfl) ?_
  refine lv_imul hx hb dX3_walkLane_66 ?_
  refine lv_iadd hx hb dX3_walkLane_67 ?_
  refine lv_aload_n hx hb dX3_walkLane_68 rfl (lv_at hl 2 rfl) ?_
  refine va_get (D := D) (ci := 2) (v := .ref a_least) (C := RX3) (T := TX3) (N := 5) hx hb hts (fun w h => mb (iX3 w h)) hown hK hP 0 rfl rfl 0 (by decide) (hts _ (mb tb_236)) (fun _ h9 => h9) rfl dX3_walkLane_69 ?_
  refine lv_iconst (v := 0) hx hb dX3_walkLane_72 (by decide) ?_
  obtain ⟨h7, hf⟩ := ob_d hf
  refine va_iald hx hb hK hP 1 0 rfl rfl h7 dX3_walkLane_73 ?_
  refine lv_iload_n hx hb dX3_walkLane_74 rfl (lv_at hl 3 rfl) ?_
  refine lv_iadd hx hb dX3_walkLane_75 ?_
  refine va_mmin hx hb (hml.trans hl.1.symm) hown (hts _ (mb tb_776)) (hts _ (mb tb_257)) (hts _ (mb tb_8)) (hts _ (mb wm_min)) (Nat.le_of_ble_eq_true rfl) (Nat.le_of_ble_eq_true rfl) (Nat.zero_le _) (Nat.zero_le _) dX3_walkLane_76 ?_
  obtain ⟨h8, hf⟩ := ob_d hf
  refine va_iast hx hb hK hP hD hS 2 0 rfl rfl h8 dX3_walkLane_79 (fun H locs hP hD hS => ?_)
  have hP : va_P D vwCl [oX3 a0 a_least a_next c_deepest c_shallowest c_widest, rI cI a_least 5 c_least, rI cI a_next 5 (upd (upd c_next (0 : Int32).toNatClampNeg (if ((c_least (0 : Int32).toNatClampNeg) + (2 * v1)) < ((if (if (c_least (4 : Int32).toNatClampNeg) < (c_least (3 : Int32).toNatClampNeg) then (c_least (4 : Int32).toNatClampNeg) else (c_least (3 : Int32).toNatClampNeg)) < (if (c_least (2 : Int32).toNatClampNeg) < (c_least (1 : Int32).toNatClampNeg) then (c_least (2 : Int32).toNatClampNeg) else (c_least (1 : Int32).toNatClampNeg)) then (if (c_least (4 : Int32).toNatClampNeg) < (c_least (3 : Int32).toNatClampNeg) then (c_least (4 : Int32).toNatClampNeg) else (c_least (3 : Int32).toNatClampNeg)) else (if (c_least (2 : Int32).toNatClampNeg) < (c_least (1 : Int32).toNatClampNeg) then (c_least (2 : Int32).toNatClampNeg) else (c_least (1 : Int32).toNatClampNeg))) + v1) then ((c_least (0 : Int32).toNatClampNeg) + (2 * v1)) else ((if (if (c_least (4 : Int32).toNatClampNeg) < (c_least (3 : Int32).toNatClampNeg) then (c_least (4 : Int32).toNatClampNeg) else (c_least (3 : Int32).toNatClampNeg)) < (if (c_least (2 : Int32).toNatClampNeg) < (c_least (1 : Int32).toNatClampNeg) then (c_least (2 : Int32).toNatClampNeg) else (c_least (1 : Int32).toNatClampNeg)) then (if (c_least (4 : Int32).toNatClampNeg) < (c_least (3 : Int32).toNatClampNeg) then (c_least (4 : Int32).toNatClampNeg) else (c_least (3 : Int32).toNatClampNeg)) else (if (c_least (2 : Int32).toNatClampNeg) < (c_least (1 : Int32).toNatClampNeg) then (c_least (2 : Int32).toNatClampNeg) else (c_least (1 : Int32).toNatClampNeg))) + v1))) (3 : Int32).toNatClampNeg (if ((c_least (0 : Int32).toNatClampNeg) + v1) < ((if (if (c_least (4 : Int32).toNatClampNeg) < (c_least (3 : Int32).toNatClampNeg) then (c_least (4 : Int32).toNatClampNeg) else (c_least (3 : Int32).toNatClampNeg)) < (if (c_least (2 : Int32).toNatClampNeg) < (c_least (1 : Int32).toNatClampNeg) then (c_least (2 : Int32).toNatClampNeg) else (c_least (1 : Int32).toNatClampNeg)) then (if (c_least (4 : Int32).toNatClampNeg) < (c_least (3 : Int32).toNatClampNeg) then (c_least (4 : Int32).toNatClampNeg) else (c_least (3 : Int32).toNatClampNeg)) else (if (c_least (2 : Int32).toNatClampNeg) < (c_least (1 : Int32).toNatClampNeg) then (c_least (2 : Int32).toNatClampNeg) else (c_least (1 : Int32).toNatClampNeg))) + (2 * v1)) then ((c_least (0 : Int32).toNatClampNeg) + v1) else ((if (if (c_least (4 : Int32).toNatClampNeg) < (c_least (3 : Int32).toNatClampNeg) then (c_least (4 : Int32).toNatClampNeg) else (c_least (3 : Int32).toNatClampNeg)) < (if (c_least (2 : Int32).toNatClampNeg) < (c_least (1 : Int32).toNatClampNeg) then (c_least (2 : Int32).toNatClampNeg) else (c_least (1 : Int32).toNatClampNeg)) then (if (c_least (4 : Int32).toNatClampNeg) < (c_least (3 : Int32).toNatClampNeg) then (c_least (4 : Int32).toNatClampNeg) else (c_least (3 : Int32).toNatClampNeg)) else (if (c_least (2 : Int32).toNatClampNeg) < (c_least (1 : Int32).toNatClampNeg) then (c_least (2 : Int32).toNatClampNeg) else (c_least (1 : Int32).toNatClampNeg))) + (2 * v1))))] H := hP
  have hD : va_D A [oX3 a0 a_least a_next c_deepest c_shallowest c_widest, rI cI a_least 5 c_least, rI cI a_next 5 (upd (upd c_next (0 : Int32).toNatClampNeg (if ((c_least (0 : Int32).toNatClampNeg) + (2 * v1)) < ((if (if (c_least (4 : Int32).toNatClampNeg) < (c_least (3 : Int32).toNatClampNeg) then (c_least (4 : Int32).toNatClampNeg) else (c_least (3 : Int32).toNatClampNeg)) < (if (c_least (2 : Int32).toNatClampNeg) < (c_least (1 : Int32).toNatClampNeg) then (c_least (2 : Int32).toNatClampNeg) else (c_least (1 : Int32).toNatClampNeg)) then (if (c_least (4 : Int32).toNatClampNeg) < (c_least (3 : Int32).toNatClampNeg) then (c_least (4 : Int32).toNatClampNeg) else (c_least (3 : Int32).toNatClampNeg)) else (if (c_least (2 : Int32).toNatClampNeg) < (c_least (1 : Int32).toNatClampNeg) then (c_least (2 : Int32).toNatClampNeg) else (c_least (1 : Int32).toNatClampNeg))) + v1) then ((c_least (0 : Int32).toNatClampNeg) + (2 * v1)) else ((if (if (c_least (4 : Int32).toNatClampNeg) < (c_least (3 : Int32).toNatClampNeg) then (c_least (4 : Int32).toNatClampNeg) else (c_least (3 : Int32).toNatClampNeg)) < (if (c_least (2 : Int32).toNatClampNeg) < (c_least (1 : Int32).toNatClampNeg) then (c_least (2 : Int32).toNatClampNeg) else (c_least (1 : Int32).toNatClampNeg)) then (if (c_least (4 : Int32).toNatClampNeg) < (c_least (3 : Int32).toNatClampNeg) then (c_least (4 : Int32).toNatClampNeg) else (c_least (3 : Int32).toNatClampNeg)) else (if (c_least (2 : Int32).toNatClampNeg) < (c_least (1 : Int32).toNatClampNeg) then (c_least (2 : Int32).toNatClampNeg) else (c_least (1 : Int32).toNatClampNeg))) + v1))) (3 : Int32).toNatClampNeg (if ((c_least (0 : Int32).toNatClampNeg) + v1) < ((if (if (c_least (4 : Int32).toNatClampNeg) < (c_least (3 : Int32).toNatClampNeg) then (c_least (4 : Int32).toNatClampNeg) else (c_least (3 : Int32).toNatClampNeg)) < (if (c_least (2 : Int32).toNatClampNeg) < (c_least (1 : Int32).toNatClampNeg) then (c_least (2 : Int32).toNatClampNeg) else (c_least (1 : Int32).toNatClampNeg)) then (if (c_least (4 : Int32).toNatClampNeg) < (c_least (3 : Int32).toNatClampNeg) then (c_least (4 : Int32).toNatClampNeg) else (c_least (3 : Int32).toNatClampNeg)) else (if (c_least (2 : Int32).toNatClampNeg) < (c_least (1 : Int32).toNatClampNeg) then (c_least (2 : Int32).toNatClampNeg) else (c_least (1 : Int32).toNatClampNeg))) + (2 * v1)) then ((c_least (0 : Int32).toNatClampNeg) + v1) else ((if (if (c_least (4 : Int32).toNatClampNeg) < (c_least (3 : Int32).toNatClampNeg) then (c_least (4 : Int32).toNatClampNeg) else (c_least (3 : Int32).toNatClampNeg)) < (if (c_least (2 : Int32).toNatClampNeg) < (c_least (1 : Int32).toNatClampNeg) then (c_least (2 : Int32).toNatClampNeg) else (c_least (1 : Int32).toNatClampNeg)) then (if (c_least (4 : Int32).toNatClampNeg) < (c_least (3 : Int32).toNatClampNeg) then (c_least (4 : Int32).toNatClampNeg) else (c_least (3 : Int32).toNatClampNeg)) else (if (c_least (2 : Int32).toNatClampNeg) < (c_least (1 : Int32).toNatClampNeg) then (c_least (2 : Int32).toNatClampNeg) else (c_least (1 : Int32).toNatClampNeg))) + (2 * v1))))] := hD
  refine lv_aload_n hx hb dX3_walkLane_80 rfl (lv_at hl 2 rfl) ?_
  refine va_get (D := D) (ci := 2) (v := .ref a_next) (C := RX3) (T := TX3) (N := 5) hx hb hts (fun w h => mb (iX3 w h)) hown hK hP 0 rfl rfl 1 (by decide) (hts _ (mb tb_237)) (fun _ h9 => h9) rfl dX3_walkLane_81 ?_
  refine lv_iconst (v := 1) hx hb dX3_walkLane_84 (by decide) ?_
  refine lv_ldc hx hb hown (hts _ (mb tb_771)) dX3_walkLane_85 ?_
  obtain ⟨h9, hf⟩ := ob_d hf
  refine va_iast hx hb hK hP hD hS 2 0 rfl rfl h9 dX3_walkLane_87 (fun H locs hP hD hS => ?_)
  have hP : va_P D vwCl [oX3 a0 a_least a_next c_deepest c_shallowest c_widest, rI cI a_least 5 c_least, rI cI a_next 5 (upd (upd (upd c_next (0 : Int32).toNatClampNeg (if ((c_least (0 : Int32).toNatClampNeg) + (2 * v1)) < ((if (if (c_least (4 : Int32).toNatClampNeg) < (c_least (3 : Int32).toNatClampNeg) then (c_least (4 : Int32).toNatClampNeg) else (c_least (3 : Int32).toNatClampNeg)) < (if (c_least (2 : Int32).toNatClampNeg) < (c_least (1 : Int32).toNatClampNeg) then (c_least (2 : Int32).toNatClampNeg) else (c_least (1 : Int32).toNatClampNeg)) then (if (c_least (4 : Int32).toNatClampNeg) < (c_least (3 : Int32).toNatClampNeg) then (c_least (4 : Int32).toNatClampNeg) else (c_least (3 : Int32).toNatClampNeg)) else (if (c_least (2 : Int32).toNatClampNeg) < (c_least (1 : Int32).toNatClampNeg) then (c_least (2 : Int32).toNatClampNeg) else (c_least (1 : Int32).toNatClampNeg))) + v1) then ((c_least (0 : Int32).toNatClampNeg) + (2 * v1)) else ((if (if (c_least (4 : Int32).toNatClampNeg) < (c_least (3 : Int32).toNatClampNeg) then (c_least (4 : Int32).toNatClampNeg) else (c_least (3 : Int32).toNatClampNeg)) < (if (c_least (2 : Int32).toNatClampNeg) < (c_least (1 : Int32).toNatClampNeg) then (c_least (2 : Int32).toNatClampNeg) else (c_least (1 : Int32).toNatClampNeg)) then (if (c_least (4 : Int32).toNatClampNeg) < (c_least (3 : Int32).toNatClampNeg) then (c_least (4 : Int32).toNatClampNeg) else (c_least (3 : Int32).toNatClampNeg)) else (if (c_least (2 : Int32).toNatClampNeg) < (c_least (1 : Int32).toNatClampNeg) then (c_least (2 : Int32).toNatClampNeg) else (c_least (1 : Int32).toNatClampNeg))) + v1))) (3 : Int32).toNatClampNeg (if ((c_least (0 : Int32).toNatClampNeg) + v1) < ((if (if (c_least (4 : Int32).toNatClampNeg) < (c_least (3 : Int32).toNatClampNeg) then (c_least (4 : Int32).toNatClampNeg) else (c_least (3 : Int32).toNatClampNeg)) < (if (c_least (2 : Int32).toNatClampNeg) < (c_least (1 : Int32).toNatClampNeg) then (c_least (2 : Int32).toNatClampNeg) else (c_least (1 : Int32).toNatClampNeg)) then (if (c_least (4 : Int32).toNatClampNeg) < (c_least (3 : Int32).toNatClampNeg) then (c_least (4 : Int32).toNatClampNeg) else (c_least (3 : Int32).toNatClampNeg)) else (if (c_least (2 : Int32).toNatClampNeg) < (c_least (1 : Int32).toNatClampNeg) then (c_least (2 : Int32).toNatClampNeg) else (c_least (1 : Int32).toNatClampNeg))) + (2 * v1)) then ((c_least (0 : Int32).toNatClampNeg) + v1) else ((if (if (c_least (4 : Int32).toNatClampNeg) < (c_least (3 : Int32).toNatClampNeg) then (c_least (4 : Int32).toNatClampNeg) else (c_least (3 : Int32).toNatClampNeg)) < (if (c_least (2 : Int32).toNatClampNeg) < (c_least (1 : Int32).toNatClampNeg) then (c_least (2 : Int32).toNatClampNeg) else (c_least (1 : Int32).toNatClampNeg)) then (if (c_least (4 : Int32).toNatClampNeg) < (c_least (3 : Int32).toNatClampNeg) then (c_least (4 : Int32).toNatClampNeg) else (c_least (3 : Int32).toNatClampNeg)) else (if (c_least (2 : Int32).toNatClampNeg) < (c_least (1 : Int32).toNatClampNeg) then (c_least (2 : Int32).toNatClampNeg) else (c_least (1 : Int32).toNatClampNeg))) + (2 * v1)))) (1 : Int32).toNatClampNeg 1000000)] H := hP
  have hD : va_D A [oX3 a0 a_least a_next c_deepest c_shallowest c_widest, rI cI a_least 5 c_least, rI cI a_next 5 (upd (upd (upd c_next (0 : Int32).toNatClampNeg (if ((c_least (0 : Int32).toNatClampNeg) + (2 * v1)) < ((if (if (c_least (4 : Int32).toNatClampNeg) < (c_least (3 : Int32).toNatClampNeg) then (c_least (4 : Int32).toNatClampNeg) else (c_least (3 : Int32).toNatClampNeg)) < (if (c_least (2 : Int32).toNatClampNeg) < (c_least (1 : Int32).toNatClampNeg) then (c_least (2 : Int32).toNatClampNeg) else (c_least (1 : Int32).toNatClampNeg)) then (if (c_least (4 : Int32).toNatClampNeg) < (c_least (3 : Int32).toNatClampNeg) then (c_least (4 : Int32).toNatClampNeg) else (c_least (3 : Int32).toNatClampNeg)) else (if (c_least (2 : Int32).toNatClampNeg) < (c_least (1 : Int32).toNatClampNeg) then (c_least (2 : Int32).toNatClampNeg) else (c_least (1 : Int32).toNatClampNeg))) + v1) then ((c_least (0 : Int32).toNatClampNeg) + (2 * v1)) else ((if (if (c_least (4 : Int32).toNatClampNeg) < (c_least (3 : Int32).toNatClampNeg) then (c_least (4 : Int32).toNatClampNeg) else (c_least (3 : Int32).toNatClampNeg)) < (if (c_least (2 : Int32).toNatClampNeg) < (c_least (1 : Int32).toNatClampNeg) then (c_least (2 : Int32).toNatClampNeg) else (c_least (1 : Int32).toNatClampNeg)) then (if (c_least (4 : Int32).toNatClampNeg) < (c_least (3 : Int32).toNatClampNeg) then (c_least (4 : Int32).toNatClampNeg) else (c_least (3 : Int32).toNatClampNeg)) else (if (c_least (2 : Int32).toNatClampNeg) < (c_least (1 : Int32).toNatClampNeg) then (c_least (2 : Int32).toNatClampNeg) else (c_least (1 : Int32).toNatClampNeg))) + v1))) (3 : Int32).toNatClampNeg (if ((c_least (0 : Int32).toNatClampNeg) + v1) < ((if (if (c_least (4 : Int32).toNatClampNeg) < (c_least (3 : Int32).toNatClampNeg) then (c_least (4 : Int32).toNatClampNeg) else (c_least (3 : Int32).toNatClampNeg)) < (if (c_least (2 : Int32).toNatClampNeg) < (c_least (1 : Int32).toNatClampNeg) then (c_least (2 : Int32).toNatClampNeg) else (c_least (1 : Int32).toNatClampNeg)) then (if (c_least (4 : Int32).toNatClampNeg) < (c_least (3 : Int32).toNatClampNeg) then (c_least (4 : Int32).toNatClampNeg) else (c_least (3 : Int32).toNatClampNeg)) else (if (c_least (2 : Int32).toNatClampNeg) < (c_least (1 : Int32).toNatClampNeg) then (c_least (2 : Int32).toNatClampNeg) else (c_least (1 : Int32).toNatClampNeg))) + (2 * v1)) then ((c_least (0 : Int32).toNatClampNeg) + v1) else ((if (if (c_least (4 : Int32).toNatClampNeg) < (c_least (3 : Int32).toNatClampNeg) then (c_least (4 : Int32).toNatClampNeg) else (c_least (3 : Int32).toNatClampNeg)) < (if (c_least (2 : Int32).toNatClampNeg) < (c_least (1 : Int32).toNatClampNeg) then (c_least (2 : Int32).toNatClampNeg) else (c_least (1 : Int32).toNatClampNeg)) then (if (c_least (4 : Int32).toNatClampNeg) < (c_least (3 : Int32).toNatClampNeg) then (c_least (4 : Int32).toNatClampNeg) else (c_least (3 : Int32).toNatClampNeg)) else (if (c_least (2 : Int32).toNatClampNeg) < (c_least (1 : Int32).toNatClampNeg) then (c_least (2 : Int32).toNatClampNeg) else (c_least (1 : Int32).toNatClampNeg))) + (2 * v1)))) (1 : Int32).toNatClampNeg 1000000)] := hD
  refine lv_aload_n hx hb dX3_walkLane_88 rfl (lv_at hl 2 rfl) ?_
  refine va_get (D := D) (ci := 2) (v := .ref a_next) (C := RX3) (T := TX3) (N := 5) hx hb hts (fun w h => mb (iX3 w h)) hown hK hP 0 rfl rfl 1 (by decide) (hts _ (mb tb_237)) (fun _ h9 => h9) rfl dX3_walkLane_89 ?_
  refine lv_iconst (v := 2) hx hb dX3_walkLane_92 (by decide) ?_
  refine lv_ldc hx hb hown (hts _ (mb tb_771)) dX3_walkLane_93 ?_
  obtain ⟨h10, hf⟩ := ob_d hf
  refine va_iast hx hb hK hP hD hS 2 0 rfl rfl h10 dX3_walkLane_95 (fun H locs hP hD hS => ?_)
  have hP : va_P D vwCl [oX3 a0 a_least a_next c_deepest c_shallowest c_widest, rI cI a_least 5 c_least, rI cI a_next 5 (upd (upd (upd (upd c_next (0 : Int32).toNatClampNeg (if ((c_least (0 : Int32).toNatClampNeg) + (2 * v1)) < ((if (if (c_least (4 : Int32).toNatClampNeg) < (c_least (3 : Int32).toNatClampNeg) then (c_least (4 : Int32).toNatClampNeg) else (c_least (3 : Int32).toNatClampNeg)) < (if (c_least (2 : Int32).toNatClampNeg) < (c_least (1 : Int32).toNatClampNeg) then (c_least (2 : Int32).toNatClampNeg) else (c_least (1 : Int32).toNatClampNeg)) then (if (c_least (4 : Int32).toNatClampNeg) < (c_least (3 : Int32).toNatClampNeg) then (c_least (4 : Int32).toNatClampNeg) else (c_least (3 : Int32).toNatClampNeg)) else (if (c_least (2 : Int32).toNatClampNeg) < (c_least (1 : Int32).toNatClampNeg) then (c_least (2 : Int32).toNatClampNeg) else (c_least (1 : Int32).toNatClampNeg))) + v1) then ((c_least (0 : Int32).toNatClampNeg) + (2 * v1)) else ((if (if (c_least (4 : Int32).toNatClampNeg) < (c_least (3 : Int32).toNatClampNeg) then (c_least (4 : Int32).toNatClampNeg) else (c_least (3 : Int32).toNatClampNeg)) < (if (c_least (2 : Int32).toNatClampNeg) < (c_least (1 : Int32).toNatClampNeg) then (c_least (2 : Int32).toNatClampNeg) else (c_least (1 : Int32).toNatClampNeg)) then (if (c_least (4 : Int32).toNatClampNeg) < (c_least (3 : Int32).toNatClampNeg) then (c_least (4 : Int32).toNatClampNeg) else (c_least (3 : Int32).toNatClampNeg)) else (if (c_least (2 : Int32).toNatClampNeg) < (c_least (1 : Int32).toNatClampNeg) then (c_least (2 : Int32).toNatClampNeg) else (c_least (1 : Int32).toNatClampNeg))) + v1))) (3 : Int32).toNatClampNeg (if ((c_least (0 : Int32).toNatClampNeg) + v1) < ((if (if (c_least (4 : Int32).toNatClampNeg) < (c_least (3 : Int32).toNatClampNeg) then (c_least (4 : Int32).toNatClampNeg) else (c_least (3 : Int32).toNatClampNeg)) < (if (c_least (2 : Int32).toNatClampNeg) < (c_least (1 : Int32).toNatClampNeg) then (c_least (2 : Int32).toNatClampNeg) else (c_least (1 : Int32).toNatClampNeg)) then (if (c_least (4 : Int32).toNatClampNeg) < (c_least (3 : Int32).toNatClampNeg) then (c_least (4 : Int32).toNatClampNeg) else (c_least (3 : Int32).toNatClampNeg)) else (if (c_least (2 : Int32).toNatClampNeg) < (c_least (1 : Int32).toNatClampNeg) then (c_least (2 : Int32).toNatClampNeg) else (c_least (1 : Int32).toNatClampNeg))) + (2 * v1)) then ((c_least (0 : Int32).toNatClampNeg) + v1) else ((if (if (c_least (4 : Int32).toNatClampNeg) < (c_least (3 : Int32).toNatClampNeg) then (c_least (4 : Int32).toNatClampNeg) else (c_least (3 : Int32).toNatClampNeg)) < (if (c_least (2 : Int32).toNatClampNeg) < (c_least (1 : Int32).toNatClampNeg) then (c_least (2 : Int32).toNatClampNeg) else (c_least (1 : Int32).toNatClampNeg)) then (if (c_least (4 : Int32).toNatClampNeg) < (c_least (3 : Int32).toNatClampNeg) then (c_least (4 : Int32).toNatClampNeg) else (c_least (3 : Int32).toNatClampNeg)) else (if (c_least (2 : Int32).toNatClampNeg) < (c_least (1 : Int32).toNatClampNeg) then (c_least (2 : Int32).toNatClampNeg) else (c_least (1 : Int32).toNatClampNeg))) + (2 * v1)))) (1 : Int32).toNatClampNeg 1000000) (2 : Int32).toNatClampNeg 1000000)] H := hP
  have hD : va_D A [oX3 a0 a_least a_next c_deepest c_shallowest c_widest, rI cI a_least 5 c_least, rI cI a_next 5 (upd (upd (upd (upd c_next (0 : Int32).toNatClampNeg (if ((c_least (0 : Int32).toNatClampNeg) + (2 * v1)) < ((if (if (c_least (4 : Int32).toNatClampNeg) < (c_least (3 : Int32).toNatClampNeg) then (c_least (4 : Int32).toNatClampNeg) else (c_least (3 : Int32).toNatClampNeg)) < (if (c_least (2 : Int32).toNatClampNeg) < (c_least (1 : Int32).toNatClampNeg) then (c_least (2 : Int32).toNatClampNeg) else (c_least (1 : Int32).toNatClampNeg)) then (if (c_least (4 : Int32).toNatClampNeg) < (c_least (3 : Int32).toNatClampNeg) then (c_least (4 : Int32).toNatClampNeg) else (c_least (3 : Int32).toNatClampNeg)) else (if (c_least (2 : Int32).toNatClampNeg) < (c_least (1 : Int32).toNatClampNeg) then (c_least (2 : Int32).toNatClampNeg) else (c_least (1 : Int32).toNatClampNeg))) + v1) then ((c_least (0 : Int32).toNatClampNeg) + (2 * v1)) else ((if (if (c_least (4 : Int32).toNatClampNeg) < (c_least (3 : Int32).toNatClampNeg) then (c_least (4 : Int32).toNatClampNeg) else (c_least (3 : Int32).toNatClampNeg)) < (if (c_least (2 : Int32).toNatClampNeg) < (c_least (1 : Int32).toNatClampNeg) then (c_least (2 : Int32).toNatClampNeg) else (c_least (1 : Int32).toNatClampNeg)) then (if (c_least (4 : Int32).toNatClampNeg) < (c_least (3 : Int32).toNatClampNeg) then (c_least (4 : Int32).toNatClampNeg) else (c_least (3 : Int32).toNatClampNeg)) else (if (c_least (2 : Int32).toNatClampNeg) < (c_least (1 : Int32).toNatClampNeg) then (c_least (2 : Int32).toNatClampNeg) else (c_least (1 : Int32).toNatClampNeg))) + v1))) (3 : Int32).toNatClampNeg (if ((c_least (0 : Int32).toNatClampNeg) + v1) < ((if (if (c_least (4 : Int32).toNatClampNeg) < (c_least (3 : Int32).toNatClampNeg) then (c_least (4 : Int32).toNatClampNeg) else (c_least (3 : Int32).toNatClampNeg)) < (if (c_least (2 : Int32).toNatClampNeg) < (c_least (1 : Int32).toNatClampNeg) then (c_least (2 : Int32).toNatClampNeg) else (c_least (1 : Int32).toNatClampNeg)) then (if (c_least (4 : Int32).toNatClampNeg) < (c_least (3 : Int32).toNatClampNeg) then (c_least (4 : Int32).toNatClampNeg) else (c_least (3 : Int32).toNatClampNeg)) else (if (c_least (2 : Int32).toNatClampNeg) < (c_least (1 : Int32).toNatClampNeg) then (c_least (2 : Int32).toNatClampNeg) else (c_least (1 : Int32).toNatClampNeg))) + (2 * v1)) then ((c_least (0 : Int32).toNatClampNeg) + v1) else ((if (if (c_least (4 : Int32).toNatClampNeg) < (c_least (3 : Int32).toNatClampNeg) then (c_least (4 : Int32).toNatClampNeg) else (c_least (3 : Int32).toNatClampNeg)) < (if (c_least (2 : Int32).toNatClampNeg) < (c_least (1 : Int32).toNatClampNeg) then (c_least (2 : Int32).toNatClampNeg) else (c_least (1 : Int32).toNatClampNeg)) then (if (c_least (4 : Int32).toNatClampNeg) < (c_least (3 : Int32).toNatClampNeg) then (c_least (4 : Int32).toNatClampNeg) else (c_least (3 : Int32).toNatClampNeg)) else (if (c_least (2 : Int32).toNatClampNeg) < (c_least (1 : Int32).toNatClampNeg) then (c_least (2 : Int32).toNatClampNeg) else (c_least (1 : Int32).toNatClampNeg))) + (2 * v1)))) (1 : Int32).toNatClampNeg 1000000) (2 : Int32).toNatClampNeg 1000000)] := hD
  refine lv_aload_n hx hb dX3_walkLane_96 rfl (lv_at hl 2 rfl) ?_
  refine va_get (D := D) (ci := 2) (v := .ref a_next) (C := RX3) (T := TX3) (N := 5) hx hb hts (fun w h => mb (iX3 w h)) hown hK hP 0 rfl rfl 1 (by decide) (hts _ (mb tb_237)) (fun _ h9 => h9) rfl dX3_walkLane_97 ?_
  refine lv_iconst (v := 4) hx hb dX3_walkLane_100 (by decide) ?_
  refine lv_ldc hx hb hown (hts _ (mb tb_771)) dX3_walkLane_101 ?_
  obtain ⟨h11, hf⟩ := ob_d hf
  refine va_iast hx hb hK hP hD hS 2 0 rfl rfl h11 dX3_walkLane_103 (fun H locs hP hD hS => ?_)
  have hP : va_P D vwCl [oX3 a0 a_least a_next c_deepest c_shallowest c_widest, rI cI a_least 5 c_least, rI cI a_next 5 (upd (upd (upd (upd (upd c_next (0 : Int32).toNatClampNeg (if ((c_least (0 : Int32).toNatClampNeg) + (2 * v1)) < ((if (if (c_least (4 : Int32).toNatClampNeg) < (c_least (3 : Int32).toNatClampNeg) then (c_least (4 : Int32).toNatClampNeg) else (c_least (3 : Int32).toNatClampNeg)) < (if (c_least (2 : Int32).toNatClampNeg) < (c_least (1 : Int32).toNatClampNeg) then (c_least (2 : Int32).toNatClampNeg) else (c_least (1 : Int32).toNatClampNeg)) then (if (c_least (4 : Int32).toNatClampNeg) < (c_least (3 : Int32).toNatClampNeg) then (c_least (4 : Int32).toNatClampNeg) else (c_least (3 : Int32).toNatClampNeg)) else (if (c_least (2 : Int32).toNatClampNeg) < (c_least (1 : Int32).toNatClampNeg) then (c_least (2 : Int32).toNatClampNeg) else (c_least (1 : Int32).toNatClampNeg))) + v1) then ((c_least (0 : Int32).toNatClampNeg) + (2 * v1)) else ((if (if (c_least (4 : Int32).toNatClampNeg) < (c_least (3 : Int32).toNatClampNeg) then (c_least (4 : Int32).toNatClampNeg) else (c_least (3 : Int32).toNatClampNeg)) < (if (c_least (2 : Int32).toNatClampNeg) < (c_least (1 : Int32).toNatClampNeg) then (c_least (2 : Int32).toNatClampNeg) else (c_least (1 : Int32).toNatClampNeg)) then (if (c_least (4 : Int32).toNatClampNeg) < (c_least (3 : Int32).toNatClampNeg) then (c_least (4 : Int32).toNatClampNeg) else (c_least (3 : Int32).toNatClampNeg)) else (if (c_least (2 : Int32).toNatClampNeg) < (c_least (1 : Int32).toNatClampNeg) then (c_least (2 : Int32).toNatClampNeg) else (c_least (1 : Int32).toNatClampNeg))) + v1))) (3 : Int32).toNatClampNeg (if ((c_least (0 : Int32).toNatClampNeg) + v1) < ((if (if (c_least (4 : Int32).toNatClampNeg) < (c_least (3 : Int32).toNatClampNeg) then (c_least (4 : Int32).toNatClampNeg) else (c_least (3 : Int32).toNatClampNeg)) < (if (c_least (2 : Int32).toNatClampNeg) < (c_least (1 : Int32).toNatClampNeg) then (c_least (2 : Int32).toNatClampNeg) else (c_least (1 : Int32).toNatClampNeg)) then (if (c_least (4 : Int32).toNatClampNeg) < (c_least (3 : Int32).toNatClampNeg) then (c_least (4 : Int32).toNatClampNeg) else (c_least (3 : Int32).toNatClampNeg)) else (if (c_least (2 : Int32).toNatClampNeg) < (c_least (1 : Int32).toNatClampNeg) then (c_least (2 : Int32).toNatClampNeg) else (c_least (1 : Int32).toNatClampNeg))) + (2 * v1)) then ((c_least (0 : Int32).toNatClampNeg) + v1) else ((if (if (c_least (4 : Int32).toNatClampNeg) < (c_least (3 : Int32).toNatClampNeg) then (c_least (4 : Int32).toNatClampNeg) else (c_least (3 : Int32).toNatClampNeg)) < (if (c_least (2 : Int32).toNatClampNeg) < (c_least (1 : Int32).toNatClampNeg) then (c_least (2 : Int32).toNatClampNeg) else (c_least (1 : Int32).toNatClampNeg)) then (if (c_least (4 : Int32).toNatClampNeg) < (c_least (3 : Int32).toNatClampNeg) then (c_least (4 : Int32).toNatClampNeg) else (c_least (3 : Int32).toNatClampNeg)) else (if (c_least (2 : Int32).toNatClampNeg) < (c_least (1 : Int32).toNatClampNeg) then (c_least (2 : Int32).toNatClampNeg) else (c_least (1 : Int32).toNatClampNeg))) + (2 * v1)))) (1 : Int32).toNatClampNeg 1000000) (2 : Int32).toNatClampNeg 1000000) (4 : Int32).toNatClampNeg 1000000)] H := hP
  have hD : va_D A [oX3 a0 a_least a_next c_deepest c_shallowest c_widest, rI cI a_least 5 c_least, rI cI a_next 5 (upd (upd (upd (upd (upd c_next (0 : Int32).toNatClampNeg (if ((c_least (0 : Int32).toNatClampNeg) + (2 * v1)) < ((if (if (c_least (4 : Int32).toNatClampNeg) < (c_least (3 : Int32).toNatClampNeg) then (c_least (4 : Int32).toNatClampNeg) else (c_least (3 : Int32).toNatClampNeg)) < (if (c_least (2 : Int32).toNatClampNeg) < (c_least (1 : Int32).toNatClampNeg) then (c_least (2 : Int32).toNatClampNeg) else (c_least (1 : Int32).toNatClampNeg)) then (if (c_least (4 : Int32).toNatClampNeg) < (c_least (3 : Int32).toNatClampNeg) then (c_least (4 : Int32).toNatClampNeg) else (c_least (3 : Int32).toNatClampNeg)) else (if (c_least (2 : Int32).toNatClampNeg) < (c_least (1 : Int32).toNatClampNeg) then (c_least (2 : Int32).toNatClampNeg) else (c_least (1 : Int32).toNatClampNeg))) + v1) then ((c_least (0 : Int32).toNatClampNeg) + (2 * v1)) else ((if (if (c_least (4 : Int32).toNatClampNeg) < (c_least (3 : Int32).toNatClampNeg) then (c_least (4 : Int32).toNatClampNeg) else (c_least (3 : Int32).toNatClampNeg)) < (if (c_least (2 : Int32).toNatClampNeg) < (c_least (1 : Int32).toNatClampNeg) then (c_least (2 : Int32).toNatClampNeg) else (c_least (1 : Int32).toNatClampNeg)) then (if (c_least (4 : Int32).toNatClampNeg) < (c_least (3 : Int32).toNatClampNeg) then (c_least (4 : Int32).toNatClampNeg) else (c_least (3 : Int32).toNatClampNeg)) else (if (c_least (2 : Int32).toNatClampNeg) < (c_least (1 : Int32).toNatClampNeg) then (c_least (2 : Int32).toNatClampNeg) else (c_least (1 : Int32).toNatClampNeg))) + v1))) (3 : Int32).toNatClampNeg (if ((c_least (0 : Int32).toNatClampNeg) + v1) < ((if (if (c_least (4 : Int32).toNatClampNeg) < (c_least (3 : Int32).toNatClampNeg) then (c_least (4 : Int32).toNatClampNeg) else (c_least (3 : Int32).toNatClampNeg)) < (if (c_least (2 : Int32).toNatClampNeg) < (c_least (1 : Int32).toNatClampNeg) then (c_least (2 : Int32).toNatClampNeg) else (c_least (1 : Int32).toNatClampNeg)) then (if (c_least (4 : Int32).toNatClampNeg) < (c_least (3 : Int32).toNatClampNeg) then (c_least (4 : Int32).toNatClampNeg) else (c_least (3 : Int32).toNatClampNeg)) else (if (c_least (2 : Int32).toNatClampNeg) < (c_least (1 : Int32).toNatClampNeg) then (c_least (2 : Int32).toNatClampNeg) else (c_least (1 : Int32).toNatClampNeg))) + (2 * v1)) then ((c_least (0 : Int32).toNatClampNeg) + v1) else ((if (if (c_least (4 : Int32).toNatClampNeg) < (c_least (3 : Int32).toNatClampNeg) then (c_least (4 : Int32).toNatClampNeg) else (c_least (3 : Int32).toNatClampNeg)) < (if (c_least (2 : Int32).toNatClampNeg) < (c_least (1 : Int32).toNatClampNeg) then (c_least (2 : Int32).toNatClampNeg) else (c_least (1 : Int32).toNatClampNeg)) then (if (c_least (4 : Int32).toNatClampNeg) < (c_least (3 : Int32).toNatClampNeg) then (c_least (4 : Int32).toNatClampNeg) else (c_least (3 : Int32).toNatClampNeg)) else (if (c_least (2 : Int32).toNatClampNeg) < (c_least (1 : Int32).toNatClampNeg) then (c_least (2 : Int32).toNatClampNeg) else (c_least (1 : Int32).toNatClampNeg))) + (2 * v1)))) (1 : Int32).toNatClampNeg 1000000) (2 : Int32).toNatClampNeg 1000000) (4 : Int32).toNatClampNeg 1000000)] := hD
  refine lv_aload_n hx hb dX3_walkLane_104 rfl (lv_at hl 2 rfl) ?_
  refine va_get (D := D) (ci := 2) (v := .int c_deepest) (C := RX3) (T := TX3) (N := 5) hx hb hts (fun w h => mb (iX3 w h)) hown hK hP 0 rfl rfl 2 (by decide) (hts _ (mb tb_238)) (fun _ h9 => h9) rfl dX3_walkLane_105 ?_
  refine lv_if_ne (tgt := 118) hx hb dX3_walkLane_108 (by decide) (fun h12 => ?_) (fun h12 => ?_)
  · have hf := ineg h12 hf
    refine lv_aload_n hx hb dX3_walkLane_118 rfl (lv_at hl 2 rfl) ?_
    refine lv_iload_n hx hb dX3_walkLane_119 rfl (lv_at hl 3 rfl) ?_
    obtain ⟨o15, hc14, hf⟩ := ob1 hf
    refine rw_callv (va_runV (As := [.int v1]) (rest := []) ⟨hx, hb, hml, hown, hts⟩ (k_X3_turnInLane l hl0 D cI cJ cZ cS B0 H.size a0 a_least a_next c_deepest c_shallowest c_widest c_least (upd (upd (upd (upd (upd c_next (0 : Int32).toNatClampNeg (if ((c_least (0 : Int32).toNatClampNeg) + (2 * v1)) < ((if (if (c_least (4 : Int32).toNatClampNeg) < (c_least (3 : Int32).toNatClampNeg) then (c_least (4 : Int32).toNatClampNeg) else (c_least (3 : Int32).toNatClampNeg)) < (if (c_least (2 : Int32).toNatClampNeg) < (c_least (1 : Int32).toNatClampNeg) then (c_least (2 : Int32).toNatClampNeg) else (c_least (1 : Int32).toNatClampNeg)) then (if (c_least (4 : Int32).toNatClampNeg) < (c_least (3 : Int32).toNatClampNeg) then (c_least (4 : Int32).toNatClampNeg) else (c_least (3 : Int32).toNatClampNeg)) else (if (c_least (2 : Int32).toNatClampNeg) < (c_least (1 : Int32).toNatClampNeg) then (c_least (2 : Int32).toNatClampNeg) else (c_least (1 : Int32).toNatClampNeg))) + v1) then ((c_least (0 : Int32).toNatClampNeg) + (2 * v1)) else ((if (if (c_least (4 : Int32).toNatClampNeg) < (c_least (3 : Int32).toNatClampNeg) then (c_least (4 : Int32).toNatClampNeg) else (c_least (3 : Int32).toNatClampNeg)) < (if (c_least (2 : Int32).toNatClampNeg) < (c_least (1 : Int32).toNatClampNeg) then (c_least (2 : Int32).toNatClampNeg) else (c_least (1 : Int32).toNatClampNeg)) then (if (c_least (4 : Int32).toNatClampNeg) < (c_least (3 : Int32).toNatClampNeg) then (c_least (4 : Int32).toNatClampNeg) else (c_least (3 : Int32).toNatClampNeg)) else (if (c_least (2 : Int32).toNatClampNeg) < (c_least (1 : Int32).toNatClampNeg) then (c_least (2 : Int32).toNatClampNeg) else (c_least (1 : Int32).toNatClampNeg))) + v1))) (3 : Int32).toNatClampNeg (if ((c_least (0 : Int32).toNatClampNeg) + v1) < ((if (if (c_least (4 : Int32).toNatClampNeg) < (c_least (3 : Int32).toNatClampNeg) then (c_least (4 : Int32).toNatClampNeg) else (c_least (3 : Int32).toNatClampNeg)) < (if (c_least (2 : Int32).toNatClampNeg) < (c_least (1 : Int32).toNatClampNeg) then (c_least (2 : Int32).toNatClampNeg) else (c_least (1 : Int32).toNatClampNeg)) then (if (c_least (4 : Int32).toNatClampNeg) < (c_least (3 : Int32).toNatClampNeg) then (c_least (4 : Int32).toNatClampNeg) else (c_least (3 : Int32).toNatClampNeg)) else (if (c_least (2 : Int32).toNatClampNeg) < (c_least (1 : Int32).toNatClampNeg) then (c_least (2 : Int32).toNatClampNeg) else (c_least (1 : Int32).toNatClampNeg))) + (2 * v1)) then ((c_least (0 : Int32).toNatClampNeg) + v1) else ((if (if (c_least (4 : Int32).toNatClampNeg) < (c_least (3 : Int32).toNatClampNeg) then (c_least (4 : Int32).toNatClampNeg) else (c_least (3 : Int32).toNatClampNeg)) < (if (c_least (2 : Int32).toNatClampNeg) < (c_least (1 : Int32).toNatClampNeg) then (c_least (2 : Int32).toNatClampNeg) else (c_least (1 : Int32).toNatClampNeg)) then (if (c_least (4 : Int32).toNatClampNeg) < (c_least (3 : Int32).toNatClampNeg) then (c_least (4 : Int32).toNatClampNeg) else (c_least (3 : Int32).toNatClampNeg)) else (if (c_least (2 : Int32).toNatClampNeg) < (c_least (1 : Int32).toNatClampNeg) then (c_least (2 : Int32).toNatClampNeg) else (c_least (1 : Int32).toNatClampNeg))) + (2 * v1)))) (1 : Int32).toNatClampNeg 1000000) (2 : Int32).toNatClampNeg 1000000) (4 : Int32).toNatClampNeg 1000000) v1 o15 hc14) (cwV 1 hts (gV tb_789 tb_791 ts_26 tb_7 tb_792) rfl rfl rfl (by decide +kernel) ⟨Nat.le_of_ble_eq_true rfl, Nat.le_of_ble_eq_true rfl⟩) ⟨wp_blind, va_recv hK hP (ci := 2) (q0 := 0) rfl rfl, wp_pre (hP.sub [0, 1, 2] rfl) hK (va_D.sub (hD.weaken (fun _ _ _ h9 => hAB _ h9)) [0, 1, 2] rfl rfl) (hBn _ _ hS) (hEn _ _ hS)⟩ rfl rfl hl.1 rfl (lv_room (Nat.le_of_ble_eq_true rfl)) dX3_walkLane_120 ⟨Nat.le_of_ble_eq_true rfl, Nat.le_of_ble_eq_true rfl⟩) hP hD hS hA [oX3 a0 a_least a_next c_deepest c_shallowest c_widest, rI cI a_least 5 c_least, rI cI a_next 5 o15] 3 [0, 1, 2] [] rfl rfl rfl rfl (by decide +kernel) rfl (fun H locs hP hD hS => ?_)
    exact (hWW _ _ _ _ _).mp (hJ123 _ _ hf _ _ ls hP hD hS (lv_sub hl [2] rfl))
  · have hf := ipos h12 hf
    refine lv_aload_n hx hb dX3_walkLane_111 rfl (lv_at hl 2 rfl) ?_
    obtain ⟨o21, hc20, hf⟩ := ob1 hf
    refine rw_callv (va_runV (As := []) (rest := []) ⟨hx, hb, hml, hown, hts⟩ (k_X3_skipLane l hl0 D cI cJ cZ cS B0 H.size a0 a_least a_next c_deepest c_shallowest c_widest c_least (upd (upd (upd (upd (upd c_next (0 : Int32).toNatClampNeg (if ((c_least (0 : Int32).toNatClampNeg) + (2 * v1)) < ((if (if (c_least (4 : Int32).toNatClampNeg) < (c_least (3 : Int32).toNatClampNeg) then (c_least (4 : Int32).toNatClampNeg) else (c_least (3 : Int32).toNatClampNeg)) < (if (c_least (2 : Int32).toNatClampNeg) < (c_least (1 : Int32).toNatClampNeg) then (c_least (2 : Int32).toNatClampNeg) else (c_least (1 : Int32).toNatClampNeg)) then (if (c_least (4 : Int32).toNatClampNeg) < (c_least (3 : Int32).toNatClampNeg) then (c_least (4 : Int32).toNatClampNeg) else (c_least (3 : Int32).toNatClampNeg)) else (if (c_least (2 : Int32).toNatClampNeg) < (c_least (1 : Int32).toNatClampNeg) then (c_least (2 : Int32).toNatClampNeg) else (c_least (1 : Int32).toNatClampNeg))) + v1) then ((c_least (0 : Int32).toNatClampNeg) + (2 * v1)) else ((if (if (c_least (4 : Int32).toNatClampNeg) < (c_least (3 : Int32).toNatClampNeg) then (c_least (4 : Int32).toNatClampNeg) else (c_least (3 : Int32).toNatClampNeg)) < (if (c_least (2 : Int32).toNatClampNeg) < (c_least (1 : Int32).toNatClampNeg) then (c_least (2 : Int32).toNatClampNeg) else (c_least (1 : Int32).toNatClampNeg)) then (if (c_least (4 : Int32).toNatClampNeg) < (c_least (3 : Int32).toNatClampNeg) then (c_least (4 : Int32).toNatClampNeg) else (c_least (3 : Int32).toNatClampNeg)) else (if (c_least (2 : Int32).toNatClampNeg) < (c_least (1 : Int32).toNatClampNeg) then (c_least (2 : Int32).toNatClampNeg) else (c_least (1 : Int32).toNatClampNeg))) + v1))) (3 : Int32).toNatClampNeg (if ((c_least (0 : Int32).toNatClampNeg) + v1) < ((if (if (c_least (4 : Int32).toNatClampNeg) < (c_least (3 : Int32).toNatClampNeg) then (c_least (4 : Int32).toNatClampNeg) else (c_least (3 : Int32).toNatClampNeg)) < (if (c_least (2 : Int32).toNatClampNeg) < (c_least (1 : Int32).toNatClampNeg) then (c_least (2 : Int32).toNatClampNeg) else (c_least (1 : Int32).toNatClampNeg)) then (if (c_least (4 : Int32).toNatClampNeg) < (c_least (3 : Int32).toNatClampNeg) then (c_least (4 : Int32).toNatClampNeg) else (c_least (3 : Int32).toNatClampNeg)) else (if (c_least (2 : Int32).toNatClampNeg) < (c_least (1 : Int32).toNatClampNeg) then (c_least (2 : Int32).toNatClampNeg) else (c_least (1 : Int32).toNatClampNeg))) + (2 * v1)) then ((c_least (0 : Int32).toNatClampNeg) + v1) else ((if (if (c_least (4 : Int32).toNatClampNeg) < (c_least (3 : Int32).toNatClampNeg) then (c_least (4 : Int32).toNatClampNeg) else (c_least (3 : Int32).toNatClampNeg)) < (if (c_least (2 : Int32).toNatClampNeg) < (c_least (1 : Int32).toNatClampNeg) then (c_least (2 : Int32).toNatClampNeg) else (c_least (1 : Int32).toNatClampNeg)) then (if (c_least (4 : Int32).toNatClampNeg) < (c_least (3 : Int32).toNatClampNeg) then (c_least (4 : Int32).toNatClampNeg) else (c_least (3 : Int32).toNatClampNeg)) else (if (c_least (2 : Int32).toNatClampNeg) < (c_least (1 : Int32).toNatClampNeg) then (c_least (2 : Int32).toNatClampNeg) else (c_least (1 : Int32).toNatClampNeg))) + (2 * v1)))) (1 : Int32).toNatClampNeg 1000000) (2 : Int32).toNatClampNeg 1000000) (4 : Int32).toNatClampNeg 1000000) o21 hc20) (cwV 0 hts (gV tb_785 tb_787 ts_25 tb_7 tb_788) rfl rfl rfl (by decide +kernel) ⟨Nat.le_of_ble_eq_true rfl, Nat.le_of_ble_eq_true rfl⟩) ⟨wp_blind, va_recv hK hP (ci := 2) (q0 := 0) rfl rfl, wp_pre (hP.sub [0, 1, 2] rfl) hK (va_D.sub (hD.weaken (fun _ _ _ h9 => hAB _ h9)) [0, 1, 2] rfl rfl) (hBn _ _ hS) (hEn _ _ hS)⟩ rfl rfl hl.1 rfl (lv_room (Nat.le_of_ble_eq_true rfl)) dX3_walkLane_112 ⟨Nat.le_of_ble_eq_true rfl, Nat.le_of_ble_eq_true rfl⟩) hP hD hS hA [oX3 a0 a_least a_next c_deepest c_shallowest c_widest, rI cI a_least 5 c_least, rI cI a_next 5 o21] 3 [0, 1, 2] [] rfl rfl rfl rfl (by decide +kernel) rfl (fun H locs hP hD hS => ?_)
    refine lv_goto (tgt := 123) hx hb dX3_walkLane_115 (by decide) ?_
    exact (hWW _ _ _ _ _).mp (hJ123 _ _ hf _ _ ls hP hD hS (lv_sub hl [2] rfl))
def f_X3_least_L15 (n2 : Int32) (c_deepest : Int32) (c_shallowest : Int32) (c_widest : Int32) (c_next : Nat → Int32) (cp1_lanes : Int32) (cp1_positions : Int32) (cp1_gap : Int32) (cp1_picked : Int64) (n3 : Int32) (c_least : Nat → Int32) : Option ((Int32 × (Nat → Int32)) ⊕ (Nat → Int32)) :=
  (if 5 ≤ n3 then some (.inr c_least)
  else gd n3 5 (some (.inl (n3 + 1, upd c_least n3.toNatClampNeg 1000000))))
def f_X3_least_L43_J60 (n2 : Int32) (n3 : Int32) (c_deepest : Int32) (c_shallowest : Int32) (c_widest : Int32) (c_least : Nat → Int32) (c_next : Nat → Int32) (cp1_lanes : Int32) (cp1_positions : Int32) (cp1_gap : Int32) (cp1_picked : Int64) : Option ((Int32 × Int32 × Int32 × Int32 × (Nat → Int32) × (Nat → Int32)) ⊕ (Int32 × Int32 × Int32 × (Nat → Int32) × (Nat → Int32))) :=
  bnd3 (f_X3_look n3 c_deepest c_shallowest c_widest cp1_positions cp1_picked) (fun o16 o17 o18 =>
  (bnd2 (f_X3_walkLane (cp1_positions + 1) o16 o17 o18 c_least c_next) (fun o21 o22 =>
  (some (.inl (n3 + 1, o16, o17, o18, o21, o22))))))
def f_X3_least_L43 (n2 : Int32) (cp1_lanes : Int32) (cp1_positions : Int32) (cp1_gap : Int32) (cp1_picked : Int64) (n3 : Int32) (c_deepest : Int32) (c_shallowest : Int32) (c_widest : Int32) (c_least : Nat → Int32) (c_next : Nat → Int32) : Option ((Int32 × Int32 × Int32 × Int32 × (Nat → Int32) × (Nat → Int32)) ⊕ (Int32 × Int32 × Int32 × (Nat → Int32) × (Nat → Int32))) :=
  (if n2 < n3 then some (.inr (c_deepest, c_shallowest, c_widest, c_least, c_next))
  else (if n3 ≤ 0 then f_X3_least_L43_J60 n2 n3 c_deepest c_shallowest c_widest c_least c_next cp1_lanes cp1_positions cp1_gap cp1_picked
  else bnd2 (f_X3_crossOver cp1_gap c_least c_next) (fun o25 o26 =>
  (f_X3_least_L43_J60 n2 n3 c_deepest c_shallowest c_widest o25 o26 cp1_lanes cp1_positions cp1_gap cp1_picked))))
def f_X3_least (c_deepest : Int32) (c_shallowest : Int32) (c_widest : Int32) (c_least : Nat → Int32) (c_next : Nat → Int32) (cp1_lanes : Int32) (cp1_positions : Int32) (cp1_gap : Int32) (cp1_picked : Int64) : Option (Int32 × Int32 × Int32 × Int32 × (Nat → Int32) × (Nat → Int32)) :=
  bnd4 (f_X3_lastLane c_deepest c_shallowest c_widest cp1_lanes cp1_positions cp1_picked) (fun r1 o3 o4 o5 =>
  ((if r1 = (-1) then some (0, o3, o4, o5, c_least, c_next)
  else (bnd1 (loop (fun z => f_X3_least_L15 r1 o3 o4 o5 c_next cp1_lanes cp1_positions cp1_gap cp1_picked z.1 z.2) fu (0, c_least)) fun c10 =>
  gd 1 5 ((bnd5 (loop (fun z => f_X3_least_L43 r1 cp1_lanes cp1_positions cp1_gap cp1_picked z.1 z.2.1 z.2.2.1 z.2.2.2.1 z.2.2.2.2.1 z.2.2.2.2.2) fu (0, o3, o4, o5, upd c10 (1 : Int32).toNatClampNeg 0, c_next)) fun c28 c29 c30 c31 c32 =>
  gd 1 5 (gd 2 5 (gd 3 5 (some ((if (if (c31 (3 : Int32).toNatClampNeg) < (c31 (2 : Int32).toNatClampNeg) then (c31 (3 : Int32).toNatClampNeg) else (c31 (2 : Int32).toNatClampNeg)) < (c31 (1 : Int32).toNatClampNeg) then (if (c31 (3 : Int32).toNatClampNeg) < (c31 (2 : Int32).toNatClampNeg) then (c31 (3 : Int32).toNatClampNeg) else (c31 (2 : Int32).toNatClampNeg)) else (c31 (1 : Int32).toNatClampNeg)), c28, c29, c30, c31, c32))))))))))
set_option maxHeartbeats 4000000 in
set_option maxRecDepth 100000 in
theorem k_X3_least (l : Launch) (hl0 : l.stackTraces = false) (D : va_G) (cI cJ cZ cS : ClassId) (B0 : Nat) (sz : Nat) (a0 a_least a_next ap1 ap1_lot ap1_pieces ap1_mark ap1_byDistance : Nat) (c_deepest : Int32) (c_shallowest : Int32) (c_widest : Int32) (c_least : Nat → Int32) (c_next : Nat → Int32) (cp1_lanes : Int32) (cp1_positions : Int32) (cp1_room : Int32) (cp1_gap : Int32) (cp1_places : Int32) (cp1_picked : Int64) (r9 : Int32) (oc_deepest : Int32) (oc_shallowest : Int32) (oc_widest : Int32) (oc_least : Nat → Int32) (oc_next : Nat → Int32)  (hf : f_X3_least c_deepest c_shallowest c_widest c_least c_next cp1_lanes cp1_positions cp1_gap cp1_picked = some (r9, oc_deepest, oc_shallowest, oc_widest, oc_least, oc_next)) : Met l yX3_least (wz yX3_least cX3_least 4 (some .int)) ({ frames := 3, cells := 0, slots := 0, locals := 90 }) (va_Pc [.ref a0, .ref ap1] (wp D cI cJ cZ cS B0 [oX3 a0 a_least a_next c_deepest c_shallowest c_widest, rI cI a_least 5 c_least, rI cI a_next 5 c_next, oX5 ap1 cp1_lanes cp1_positions cp1_room cp1_gap cp1_places cp1_picked ap1_lot ap1_pieces ap1_mark ap1_byDistance] sz)) (va_Qi (fun (r2 : Int32) (_ : Unit) => r2 = r9) (fun _ t => va_P D vwCl [oX3 a0 a_least a_next oc_deepest oc_shallowest oc_widest, rI cI a_least 5 oc_least, rI cI a_next 5 oc_next, oX5 ap1 cp1_lanes cp1_positions cp1_room cp1_gap cp1_places cp1_picked ap1_lot ap1_pieces ap1_mark ap1_byDistance] t.heap) (va_A [oX3 a0 a_least a_next c_deepest c_shallowest c_widest, rI cI a_least 5 c_least, rI cI a_next 5 c_next, oX5 ap1 cp1_lanes cp1_positions cp1_room cp1_gap cp1_places cp1_picked ap1_lot ap1_pieces ap1_mark ap1_byDistance] sz)) 0 0 (va_A [oX3 a0 a_least a_next c_deepest c_shallowest c_widest, rI cI a_least 5 c_least, rI cI a_next 5 c_next, oX5 ap1 cp1_lanes cp1_positions cp1_room cp1_gap cp1_places cp1_picked ap1_lot ap1_pieces ap1_mark ap1_byDistance] sz) := by
  refine Met.ofW (cc := cX3_least) (maxL := 4) (ret := (some .int)) (by decide) rfl ?_
  intro p e s m args below meth c s₁ B hml hv
  obtain ⟨rfl, hsz, hP, hK, hD0, hB0, hE⟩ := hv
  subst hsz
  have hx := B.exec
  have hb := B.bytes
  have hr := B.returns
  have hts := atoms_spec (ws := (wz yX3_least cX3_least 4 (some .int))) B.pre
  have hown : s.vm.findClass RX3 = some m.cls := findClass_of_methodNamed B.named
  have hlocks := B.notSynchronized
  have hD := hD0.self (sz := s.heap.size)
  have hAB : ∀ q : Nat, va_A [oX3 a0 a_least a_next c_deepest c_shallowest c_widest, rI cI a_least 5 c_least, rI cI a_next 5 c_next, oX5 ap1 cp1_lanes cp1_positions cp1_room cp1_gap cp1_places cp1_picked ap1_lot ap1_pieces ap1_mark ap1_byDistance] s.heap.size q → B0 ≤ q := va_A_B hD0 hB0
  generalize hAe : va_A [oX3 a0 a_least a_next c_deepest c_shallowest c_widest, rI cI a_least 5 c_least, rI cI a_next 5 c_next, oX5 ap1 cp1_lanes cp1_positions cp1_room cp1_gap cp1_places cp1_picked ap1_lot ap1_pieces ap1_mark ap1_byDistance] s.heap.size = A at hD hAB ⊢
  have hA : ∀ q : Nat, s.heap.size ≤ q → A q := fun q h => by rw [← hAe]; exact Or.inr h
  have hFa := hA
  have hS : va_S A s.heap s.heap [] := va_S.rf
  have hBn := fun (H : Heap) (locs : List Loc) (h : va_S A s.heap H locs) => Nat.le_trans hB0 h.1
  have hEn := fun (H : Heap) (locs : List Loc) (h : va_S A s.heap H locs) => gE_now hE h hAB
  have hl := lv_entry ([.ref a0, .ref ap1]) (n := 4) (Nat.le_of_ble_eq_true rfl)
  rw [lg_entry_eq]
  generalize (lg_sl ([.ref a0, .ref ap1]) ++ List.replicate (4 - (lg_sl ([.ref a0, .ref ap1])).length) Slot.unset).toArray = ls at hl ⊢
  have hl : lv_has ls 4 [(0, .ref a0), (1, .ref ap1)] := hl
  obtain ⟨H, hHe⟩ : ∃ H : Heap, H = s.heap := ⟨_, rfl⟩
  have hP : va_P D vwCl [oX3 a0 a_least a_next c_deepest c_shallowest c_widest, rI cI a_least 5 c_least, rI cI a_next 5 c_next, oX5 ap1 cp1_lanes cp1_positions cp1_room cp1_gap cp1_places cp1_picked ap1_lot ap1_pieces ap1_mark ap1_byDistance] H := by rw [hHe]; exact hP
  have hS : va_S A s.heap H [] := by rw [hHe]; exact hS
  refine W_heq hHe ?_
  unfold f_X3_least at hf
  refine gen_goW (fun WW hWW => ?_)
  have hL15 : ∀ (n : Nat) (n2 : Int32) (c_deepest : Int32) (c_shallowest : Int32) (c_widest : Int32) (c_next : Nat → Int32) (n3 : Int32) (c_least : Nat → Int32) (e_c_least : Nat → Int32), loop (fun z => f_X3_least_L15 n2 c_deepest c_shallowest c_widest c_next cp1_lanes cp1_positions cp1_gap cp1_picked z.1 z.2) n (n3, c_least) = some e_c_least → (∀ (H : Heap) (locs : List Loc) (ls : Array Slot), va_P D vwCl [oX3 a0 a_least a_next c_deepest c_shallowest c_widest, rI cI a_least 5 e_c_least, rI cI a_next 5 c_next, oX5 ap1 cp1_lanes cp1_positions cp1_room cp1_gap cp1_places cp1_picked ap1_lot ap1_pieces ap1_mark ap1_byDistance] H → va_D A [oX3 a0 a_least a_next c_deepest c_shallowest c_widest, rI cI a_least 5 e_c_least, rI cI a_next 5 c_next, oX5 ap1 cp1_lanes cp1_positions cp1_room cp1_gap cp1_places cp1_picked ap1_lot ap1_pieces ap1_mark ap1_byDistance] → va_S A s.heap H locs → lv_has ls 4 [(0, .ref a0), (1, .ref ap1), (2, .int n2)] → WW H locs 0 0 (F0 m 34 ls [])) → ∀ (H : Heap) (locs : List Loc) (ls : Array Slot), va_P D vwCl [oX3 a0 a_least a_next c_deepest c_shallowest c_widest, rI cI a_least 5 c_least, rI cI a_next 5 c_next, oX5 ap1 cp1_lanes cp1_positions cp1_room cp1_gap cp1_places cp1_picked ap1_lot ap1_pieces ap1_mark ap1_byDistance] H → va_D A [oX3 a0 a_least a_next c_deepest c_shallowest c_widest, rI cI a_least 5 c_least, rI cI a_next 5 c_next, oX5 ap1 cp1_lanes cp1_positions cp1_room cp1_gap cp1_places cp1_picked ap1_lot ap1_pieces ap1_mark ap1_byDistance] → va_S A s.heap H locs → lv_has ls 4 [(0, .ref a0), (1, .ref ap1), (2, .int n2), (3, .int n3)] → WW H locs 0 0 (F0 m 15 ls []) := by
    intro n
    induction n with
    | zero =>
      intro n2 c_deepest c_shallowest c_widest c_next n3 c_least e_c_least hlp
      exact absurd hlp (by simp [loop])
    | succ n ih =>
      intro n2 c_deepest c_shallowest c_widest c_next n3 c_least e_c_least hlp K H locs ls hP hD hS hl
      obtain ⟨x9, hf, hlp⟩ := loop_s hlp
      have hf : f_X3_least_L15 n2 c_deepest c_shallowest c_widest c_next cp1_lanes cp1_positions cp1_gap cp1_picked n3 c_least = some x9 := hf
      unfold f_X3_least_L15 at hf
      refine (hWW _ _ _ _ _).mpr ?_
      refine lv_iload_n hx hb dX3_least_15 rfl (lv_at hl 3 rfl) ?_
      refine lv_iconst (v := 5) hx hb dX3_least_16 (by decide) ?_
      refine lv_icmp_ge (tgt := 34) hx hb dX3_least_17 (by decide) (fun h7 => ?_) (fun h7 => ?_)
      · have hf := ipos h7 hf
        obtain rfl := Option.some.inj hf
        cases lpx_r hlp
        exact (hWW _ _ _ _ _).mp (K _ _ ls hP hD hS (lv_sub hl [0, 1, 2] rfl))
      · have hf := ineg h7 hf
        refine lv_aload_n hx hb dX3_least_20 rfl (lv_at hl 0 rfl) ?_
        refine va_get (D := D) (ci := 2) (v := .ref a_least) (C := RX3) (T := TX3) (N := 5) hx hb hts (fun w h => mb (iX3 w h)) hown hK hP 0 rfl rfl 0 (by decide) (hts _ (mb tb_236)) (fun _ h9 => h9) rfl dX3_least_21 ?_
        refine lv_iload_n hx hb dX3_least_24 rfl (lv_at hl 3 rfl) ?_
        refine lv_ldc hx hb hown (hts _ (mb tb_771)) dX3_least_25 ?_
        obtain ⟨h8, hf⟩ := ob_d hf
        refine va_iast hx hb hK hP hD hS 1 0 rfl rfl h8 dX3_least_27 (fun H locs hP hD hS => ?_)
        have hP : va_P D vwCl [oX3 a0 a_least a_next c_deepest c_shallowest c_widest, rI cI a_least 5 (upd c_least n3.toNatClampNeg 1000000), rI cI a_next 5 c_next, oX5 ap1 cp1_lanes cp1_positions cp1_room cp1_gap cp1_places cp1_picked ap1_lot ap1_pieces ap1_mark ap1_byDistance] H := hP
        have hD : va_D A [oX3 a0 a_least a_next c_deepest c_shallowest c_widest, rI cI a_least 5 (upd c_least n3.toNatClampNeg 1000000), rI cI a_next 5 c_next, oX5 ap1 cp1_lanes cp1_positions cp1_room cp1_gap cp1_places cp1_picked ap1_lot ap1_pieces ap1_mark ap1_byDistance] := hD
        refine lv_iinc (v := (n3 + 1)) (lv' := [(3, .int (n3 + 1)), (0, .ref a0), (1, .ref ap1), (2, .int n2)]) hx hb dX3_least_28 hl (k := 3) rfl rfl (by decide) rfl (fun ls hl => ?_)
        refine lv_goto (tgt := 15) hx hb dX3_least_31 (by decide) ?_
        obtain rfl := Option.some.inj hf
        exact (hWW _ _ _ _ _).mp (ih _ _ _ _ _ _ _ _ hlp K _ _ ls hP hD hS (lv_sub hl [1, 2, 3, 0] rfl))
  have hL43 : ∀ (n : Nat) (n2 : Int32) (n3 : Int32) (c_deepest : Int32) (c_shallowest : Int32) (c_widest : Int32) (c_least : Nat → Int32) (c_next : Nat → Int32) (e_c_deepest : Int32) (e_c_shallowest : Int32) (e_c_widest : Int32) (e_c_least : Nat → Int32) (e_c_next : Nat → Int32), loop (fun z => f_X3_least_L43 n2 cp1_lanes cp1_positions cp1_gap cp1_picked z.1 z.2.1 z.2.2.1 z.2.2.2.1 z.2.2.2.2.1 z.2.2.2.2.2) n (n3, c_deepest, c_shallowest, c_widest, c_least, c_next) = some (e_c_deepest, e_c_shallowest, e_c_widest, e_c_least, e_c_next) → (∀ (H : Heap) (locs : List Loc) (ls : Array Slot), va_P D vwCl [oX3 a0 a_least a_next e_c_deepest e_c_shallowest e_c_widest, rI cI a_least 5 e_c_least, rI cI a_next 5 e_c_next, oX5 ap1 cp1_lanes cp1_positions cp1_room cp1_gap cp1_places cp1_picked ap1_lot ap1_pieces ap1_mark ap1_byDistance] H → va_D A [oX3 a0 a_least a_next e_c_deepest e_c_shallowest e_c_widest, rI cI a_least 5 e_c_least, rI cI a_next 5 e_c_next, oX5 ap1 cp1_lanes cp1_positions cp1_room cp1_gap cp1_places cp1_picked ap1_lot ap1_pieces ap1_mark ap1_byDistance] → va_S A s.heap H locs → lv_has ls 4 [(0, .ref a0)] → WW H locs 0 0 (F0 m 82 ls [])) → ∀ (H : Heap) (locs : List Loc) (ls : Array Slot), va_P D vwCl [oX3 a0 a_least a_next c_deepest c_shallowest c_widest, rI cI a_least 5 c_least, rI cI a_next 5 c_next, oX5 ap1 cp1_lanes cp1_positions cp1_room cp1_gap cp1_places cp1_picked ap1_lot ap1_pieces ap1_mark ap1_byDistance] H → va_D A [oX3 a0 a_least a_next c_deepest c_shallowest c_widest, rI cI a_least 5 c_least, rI cI a_next 5 c_next, oX5 ap1 cp1_lanes cp1_positions cp1_room cp1_gap cp1_places cp1_picked ap1_lot ap1_pieces ap1_mark ap1_byDistance] → va_S A s.heap H locs → lv_has ls 4 [(0, .ref a0), (1, .ref ap1), (2, .int n2), (3, .int n3)] → WW H locs 0 0 (F0 m 43 ls []) := by
    intro n
    induction n with
    | zero =>
      intro n2 n3 c_deepest c_shallowest c_widest c_least c_next e_c_deepest e_c_shallowest e_c_widest e_c_least e_c_next hlp
      exact absurd hlp (by simp [loop])
    | succ n ih =>
      intro n2 n3 c_deepest c_shallowest c_widest c_least c_next e_c_deepest e_c_shallowest e_c_widest e_c_least e_c_next hlp K H locs ls hP hD hS hl
      obtain ⟨x9, hf, hlp⟩ := loop_s hlp
      have hf : f_X3_least_L43 n2 cp1_lanes cp1_positions cp1_gap cp1_picked n3 c_deepest c_shallowest c_widest c_least c_next = some x9 := hf
      unfold f_X3_least_L43 at hf
      have hJ60 : ∀ (n3 : Int32) (c_deepest : Int32) (c_shallowest : Int32) (c_widest : Int32) (c_least : Nat → Int32) (c_next : Nat → Int32), f_X3_least_L43_J60 n2 n3 c_deepest c_shallowest c_widest c_least c_next cp1_lanes cp1_positions cp1_gap cp1_picked = some x9 → ∀ (H : Heap) (locs : List Loc) (ls : Array Slot), va_P D vwCl [oX3 a0 a_least a_next c_deepest c_shallowest c_widest, rI cI a_least 5 c_least, rI cI a_next 5 c_next, oX5 ap1 cp1_lanes cp1_positions cp1_room cp1_gap cp1_places cp1_picked ap1_lot ap1_pieces ap1_mark ap1_byDistance] H → va_D A [oX3 a0 a_least a_next c_deepest c_shallowest c_widest, rI cI a_least 5 c_least, rI cI a_next 5 c_next, oX5 ap1 cp1_lanes cp1_positions cp1_room cp1_gap cp1_places cp1_picked ap1_lot ap1_pieces ap1_mark ap1_byDistance] → va_S A s.heap H locs → lv_has ls 4 [(0, .ref a0), (1, .ref ap1), (2, .int n2), (3, .int n3)] → WW H locs 0 0 (F0 m 60 ls []) := by
        intro n3 c_deepest c_shallowest c_widest c_least c_next hf H locs ls hP hD hS hl
        unfold f_X3_least_L43_J60 at hf
        refine (hWW _ _ _ _ _).mpr ?_
        refine lv_aload_n hx hb dX3_least_60 rfl (lv_at hl 0 rfl) ?_
        refine lv_aload_n hx hb dX3_least_61 rfl (lv_at hl 1 rfl) ?_
        refine lv_iload_n hx hb dX3_least_62 rfl (lv_at hl 3 rfl) ?_
        obtain ⟨o16, o17, o18, hc15, hf⟩ := ob3 hf
        refine rw_callv (va_runV (As := [.ref ap1, .int n3]) (rest := []) ⟨hx, hb, hml, hown, hts⟩ (k_X3_look l hl0 D cI cJ cZ cS B0 H.size a0 a_least a_next ap1 ap1_lot ap1_pieces ap1_mark ap1_byDistance c_deepest c_shallowest c_widest cp1_lanes cp1_positions cp1_room cp1_gap cp1_places cp1_picked n3 o16 o17 o18 hc15) (cwV 2 hts (gV tb_754 tb_756 ts_21 tb_7 tb_757) rfl rfl rfl (by decide +kernel) ⟨Nat.le_of_ble_eq_true rfl, Nat.le_of_ble_eq_true rfl⟩) ⟨wp_blind, va_recv hK hP (ci := 2) (q0 := 0) rfl rfl, wp_pre (hP.sub [0, 3] rfl) hK (va_D.sub (hD.weaken (fun _ _ _ h9 => hAB _ h9)) [0, 3] rfl rfl) (hBn _ _ hS) (hEn _ _ hS)⟩ rfl rfl hl.1 rfl (lv_room (Nat.le_of_ble_eq_true rfl)) dX3_least_63 ⟨Nat.le_of_ble_eq_true rfl, Nat.le_of_ble_eq_true rfl⟩) hP hD hS hA [oX3 a0 a_least a_next o16 o17 o18, rI cI a_least 5 c_least, rI cI a_next 5 c_next, oX5 ap1 cp1_lanes cp1_positions cp1_room cp1_gap cp1_places cp1_picked ap1_lot ap1_pieces ap1_mark ap1_byDistance] 4 [0, 3] [1, 2] rfl rfl rfl rfl (by decide +kernel) rfl (fun H locs hP hD hS => ?_)
        refine lv_aload_n hx hb dX3_least_66 rfl (lv_at hl 0 rfl) ?_
        refine lv_aload_n hx hb dX3_least_67 rfl (lv_at hl 1 rfl) ?_
        refine va_get (D := D) (ci := 4) (v := .int cp1_positions) (C := RX5) (T := TX5) (N := 10) hx hb hts (fun w h => mb (iX5 w h)) hown hK hP 3 rfl rfl 1 (by decide) (hts _ (mb tb_48)) (fun _ h9 => h9) rfl dX3_least_68 ?_
        refine lv_iconst (v := 1) hx hb dX3_least_71 (by decide) ?_
        refine lv_iadd hx hb dX3_least_72 ?_
        obtain ⟨o21, o22, hc20, hf⟩ := ob2 hf
        refine rw_callv (va_runV (As := [.int (cp1_positions + 1)]) (rest := []) ⟨hx, hb, hml, hown, hts⟩ (k_X3_walkLane l hl0 D cI cJ cZ cS B0 H.size a0 a_least a_next o16 o17 o18 c_least c_next (cp1_positions + 1) o21 o22 hc20) (cwV 1 hts (gV tb_781 tb_783 ts_24 tb_7 tb_784) rfl rfl rfl (by decide +kernel) ⟨Nat.le_of_ble_eq_true rfl, Nat.le_of_ble_eq_true rfl⟩) ⟨wp_blind, va_recv hK hP (ci := 2) (q0 := 0) rfl rfl, wp_pre (hP.sub [0, 1, 2] rfl) hK (va_D.sub (hD.weaken (fun _ _ _ h9 => hAB _ h9)) [0, 1, 2] rfl rfl) (hBn _ _ hS) (hEn _ _ hS)⟩ rfl rfl hl.1 rfl (lv_room (Nat.le_of_ble_eq_true rfl)) dX3_least_73 ⟨Nat.le_of_ble_eq_true rfl, Nat.le_of_ble_eq_true rfl⟩) hP hD hS hA [oX3 a0 a_least a_next o16 o17 o18, rI cI a_least 5 o21, rI cI a_next 5 o22, oX5 ap1 cp1_lanes cp1_positions cp1_room cp1_gap cp1_places cp1_picked ap1_lot ap1_pieces ap1_mark ap1_byDistance] 4 [0, 1, 2] [3] rfl rfl rfl rfl (by decide +kernel) rfl (fun H locs hP hD hS => ?_)
        refine lv_iinc (v := (n3 + 1)) (lv' := [(3, .int (n3 + 1)), (0, .ref a0), (1, .ref ap1), (2, .int n2)]) hx hb dX3_least_76 hl (k := 3) rfl rfl (by decide) rfl (fun ls hl => ?_)
        refine lv_goto (tgt := 43) hx hb dX3_least_79 (by decide) ?_
        obtain rfl := Option.some.inj hf
        exact (hWW _ _ _ _ _).mp (ih _ _ _ _ _ _ _ _ _ _ _ _ hlp K _ _ ls hP hD hS (lv_sub hl [1, 2, 3, 0] rfl))
      refine (hWW _ _ _ _ _).mpr ?_
      refine lv_iload_n hx hb dX3_least_43 rfl (lv_at hl 3 rfl) ?_
      refine lv_iload_n hx hb dX3_least_44 rfl (lv_at hl 2 rfl) ?_
      refine lv_icmp_gt (tgt := 82) hx hb dX3_least_45 (by decide) (fun h12 => ?_) (fun h12 => ?_)
      · have hf := ipos h12 hf
        obtain rfl := Option.some.inj hf
        cases lpx_r hlp
        exact (hWW _ _ _ _ _).mp (K _ _ ls hP hD hS (lv_sub hl [0] rfl))
      · have hf := ineg h12 hf
        refine lv_iload_n hx hb dX3_least_48 rfl (lv_at hl 3 rfl) ?_
        refine lv_if_le (tgt := 60) hx hb dX3_least_49 (by decide) (fun h13 => ?_) (fun h13 => ?_)
        · have hf := ipos h13 hf
          exact (hWW _ _ _ _ _).mp (hJ60 _ _ _ _ _ _ hf _ _ ls hP hD hS (lv_sub hl [0, 1, 2, 3] rfl))
        · have hf := ineg h13 hf
          refine lv_aload_n hx hb dX3_least_52 rfl (lv_at hl 0 rfl) ?_
          refine lv_aload_n hx hb dX3_least_53 rfl (lv_at hl 1 rfl) ?_
          refine va_get (D := D) (ci := 4) (v := .int cp1_gap) (C := RX5) (T := TX5) (N := 10) hx hb hts (fun w h => mb (iX5 w h)) hown hK hP 3 rfl rfl 3 (by decide) (hts _ (mb tb_52)) (fun _ h9 => h9) rfl dX3_least_54 ?_
          obtain ⟨o25, o26, hc24, hf⟩ := ob2 hf
          refine rw_callv (va_runV (As := [.int cp1_gap]) (rest := []) ⟨hx, hb, hml, hown, hts⟩ (k_X3_crossOver l hl0 D cI cJ cZ cS B0 H.size a0 a_least a_next c_deepest c_shallowest c_widest c_least c_next cp1_gap o25 o26 hc24) (cwV 1 hts (gV tb_772 tb_774 ts_22 tb_7 tb_775) rfl rfl rfl (by decide +kernel) ⟨Nat.le_of_ble_eq_true rfl, Nat.le_of_ble_eq_true rfl⟩) ⟨wp_blind, va_recv hK hP (ci := 2) (q0 := 0) rfl rfl, wp_pre (hP.sub [0, 1, 2] rfl) hK (va_D.sub (hD.weaken (fun _ _ _ h9 => hAB _ h9)) [0, 1, 2] rfl rfl) (hBn _ _ hS) (hEn _ _ hS)⟩ rfl rfl hl.1 rfl (lv_room (Nat.le_of_ble_eq_true rfl)) dX3_least_57 ⟨Nat.le_of_ble_eq_true rfl, Nat.le_of_ble_eq_true rfl⟩) hP hD hS hA [oX3 a0 a_least a_next c_deepest c_shallowest c_widest, rI cI a_least 5 o25, rI cI a_next 5 o26, oX5 ap1 cp1_lanes cp1_positions cp1_room cp1_gap cp1_places cp1_picked ap1_lot ap1_pieces ap1_mark ap1_byDistance] 4 [0, 1, 2] [3] rfl rfl rfl rfl (by decide +kernel) rfl (fun H locs hP hD hS => ?_)
          exact (hWW _ _ _ _ _).mp (hJ60 _ _ _ _ _ _ hf _ _ ls hP hD hS (lv_sub hl [0, 1, 2, 3] rfl))
  refine (hWW _ _ _ _ _).mpr ?_
  refine lv_aload_n hx hb dX3_least_0 rfl (lv_at hl 0 rfl) ?_
  refine lv_aload_n hx hb dX3_least_1 rfl (lv_at hl 1 rfl) ?_
  obtain ⟨r1, o3, o4, o5, hc2, hf⟩ := ob4 hf
  refine rw_calli (r := r1) (va_runV (As := [.ref ap1]) (rest := []) ⟨hx, hb, hml, hown, hts⟩ (k_X3_lastLane l hl0 D cI cJ cZ cS B0 H.size a0 a_least a_next ap1 ap1_lot ap1_pieces ap1_mark ap1_byDistance c_deepest c_shallowest c_widest cp1_lanes cp1_positions cp1_room cp1_gap cp1_places cp1_picked r1 o3 o4 o5 hc2) (cwV 1 hts (gV tb_750 tb_752 ts_20 tb_7 tb_753) rfl rfl rfl (by decide +kernel) ⟨Nat.le_of_ble_eq_true rfl, Nat.le_of_ble_eq_true rfl⟩) ⟨wp_blind, va_recv hK hP (ci := 2) (q0 := 0) rfl rfl, wp_pre (hP.sub [0, 3] rfl) hK (va_D.sub (hD.weaken (fun _ _ _ h9 => hAB _ h9)) [0, 3] rfl rfl) (hBn _ _ hS) (hEn _ _ hS)⟩ rfl rfl hl.1 rfl (lv_room (Nat.le_of_ble_eq_true rfl)) dX3_least_2 ⟨Nat.le_of_ble_eq_true rfl, Nat.le_of_ble_eq_true rfl⟩) hP hD hS hA [oX3 a0 a_least a_next o3 o4 o5, rI cI a_least 5 c_least, rI cI a_next 5 c_next, oX5 ap1 cp1_lanes cp1_positions cp1_room cp1_gap cp1_places cp1_picked ap1_lot ap1_pieces ap1_mark ap1_byDistance] 4 [0, 3] [1, 2] rfl rfl rfl rfl (by decide +kernel) rfl (fun H locs hP hD hS => ?_)
  refine lv_istore_n (lv' := [(2, .int r1), (0, .ref a0), (1, .ref ap1)]) hx hb dX3_least_5 rfl hl (by decide) rfl (fun ls hl => ?_)
  refine lv_iload_n hx hb dX3_least_6 rfl (lv_at hl 0 rfl) ?_
  refine lv_iconst (v := (-1)) hx hb dX3_least_7 (by decide) ?_
  refine lv_icmp_ne (tgt := 13) hx hb dX3_least_8 (by decide) (fun h6 => ?_) (fun h6 => ?_)
  · have hf := ineg h6 hf
    refine lv_iconst (v := 0) hx hb dX3_least_13 (by decide) ?_
    refine lv_istore_n (lv' := [(3, .int 0), (2, .int r1), (0, .ref a0), (1, .ref ap1)]) hx hb dX3_least_14 rfl hl (by decide) rfl (fun ls hl => ?_)
    obtain ⟨c10, hc9, hf⟩ := ob1 hf
    refine (hWW _ _ _ _ _).mp (hL15 fu _ _ _ _ _ _ _ _ hc9 (fun H locs ls hP hD hS hl => ?_) _ _ ls hP hD hS (lv_sub hl [2, 3, 1, 0] rfl))
    · refine (hWW _ _ _ _ _).mpr ?_
      refine lv_aload_n hx hb dX3_least_34 rfl (lv_at hl 0 rfl) ?_
      refine va_get (D := D) (ci := 2) (v := .ref a_least) (C := RX3) (T := TX3) (N := 5) hx hb hts (fun w h => mb (iX3 w h)) hown hK hP 0 rfl rfl 0 (by decide) (hts _ (mb tb_236)) (fun _ h9 => h9) rfl dX3_least_35 ?_
      refine lv_iconst (v := 1) hx hb dX3_least_38 (by decide) ?_
      refine lv_iconst (v := 0) hx hb dX3_least_39 (by decide) ?_
      obtain ⟨h11, hf⟩ := ob_d hf
      refine va_iast hx hb hK hP hD hS 1 0 rfl rfl h11 dX3_least_40 (fun H locs hP hD hS => ?_)
      have hP : va_P D vwCl [oX3 a0 a_least a_next o3 o4 o5, rI cI a_least 5 (upd c10 (1 : Int32).toNatClampNeg 0), rI cI a_next 5 c_next, oX5 ap1 cp1_lanes cp1_positions cp1_room cp1_gap cp1_places cp1_picked ap1_lot ap1_pieces ap1_mark ap1_byDistance] H := hP
      have hD : va_D A [oX3 a0 a_least a_next o3 o4 o5, rI cI a_least 5 (upd c10 (1 : Int32).toNatClampNeg 0), rI cI a_next 5 c_next, oX5 ap1 cp1_lanes cp1_positions cp1_room cp1_gap cp1_places cp1_picked ap1_lot ap1_pieces ap1_mark ap1_byDistance] := hD
      refine lv_iconst (v := 0) hx hb dX3_least_41 (by decide) ?_
      refine lv_istore_n (lv' := [(3, .int 0), (0, .ref a0), (1, .ref ap1), (2, .int r1)]) hx hb dX3_least_42 rfl hl (by decide) rfl (fun ls hl => ?_)
      obtain ⟨c28, c29, c30, c31, c32, hc27, hf⟩ := ob5 hf
      refine (hWW _ _ _ _ _).mp (hL43 fu _ _ _ _ _ _ _ _ _ _ _ _ hc27 (fun H locs ls hP hD hS hl => ?_) _ _ ls hP hD hS (lv_sub hl [1, 2, 3, 0] rfl))
      · refine (hWW _ _ _ _ _).mpr ?_
        refine lv_aload_n hx hb dX3_least_82 rfl (lv_at hl 0 rfl) ?_
        refine va_get (D := D) (ci := 2) (v := .ref a_least) (C := RX3) (T := TX3) (N := 5) hx hb hts (fun w h => mb (iX3 w h)) hown hK hP 0 rfl rfl 0 (by decide) (hts _ (mb tb_236)) (fun _ h9 => h9) rfl dX3_least_83 ?_
        refine lv_iconst (v := 1) hx hb dX3_least_86 (by decide) ?_
        obtain ⟨h33, hf⟩ := ob_d hf
        refine va_iald hx hb hK hP 1 0 rfl rfl h33 dX3_least_87 ?_
        refine lv_aload_n hx hb dX3_least_88 rfl (lv_at hl 0 rfl) ?_
        refine va_get (D := D) (ci := 2) (v := .ref a_least) (C := RX3) (T := TX3) (N := 5) hx hb hts (fun w h => mb (iX3 w h)) hown hK hP 0 rfl rfl 0 (by decide) (hts _ (mb tb_236)) (fun _ h9 => h9) rfl dX3_least_89 ?_
        refine lv_iconst (v := 2) hx hb dX3_least_92 (by decide) ?_
        obtain ⟨h34, hf⟩ := ob_d hf
        refine va_iald hx hb hK hP 1 0 rfl rfl h34 dX3_least_93 ?_
        refine lv_aload_n hx hb dX3_least_94 rfl (lv_at hl 0 rfl) ?_
        refine va_get (D := D) (ci := 2) (v := .ref a_least) (C := RX3) (T := TX3) (N := 5) hx hb hts (fun w h => mb (iX3 w h)) hown hK hP 0 rfl rfl 0 (by decide) (hts _ (mb tb_236)) (fun _ h9 => h9) rfl dX3_least_95 ?_
        refine lv_iconst (v := 3) hx hb dX3_least_98 (by decide) ?_
        obtain ⟨h35, hf⟩ := ob_d hf
        refine va_iald hx hb hK hP 1 0 rfl rfl h35 dX3_least_99 ?_
        refine va_mmin hx hb (hml.trans hl.1.symm) hown (hts _ (mb tb_776)) (hts _ (mb tb_257)) (hts _ (mb tb_8)) (hts _ (mb wm_min)) (Nat.le_of_ble_eq_true rfl) (Nat.le_of_ble_eq_true rfl) (Nat.zero_le _) (Nat.zero_le _) dX3_least_100 ?_
        refine va_mmin hx hb (hml.trans hl.1.symm) hown (hts _ (mb tb_776)) (hts _ (mb tb_257)) (hts _ (mb tb_8)) (hts _ (mb wm_min)) (Nat.le_of_ble_eq_true rfl) (Nat.le_of_ble_eq_true rfl) (Nat.zero_le _) (Nat.zero_le _) dX3_least_103 ?_
        cases hf
        refine W.widen (k := 0) (n := 0) (Nat.le_of_ble_eq_true rfl) (Nat.le_of_ble_eq_true rfl) ?_
        exact W.iret hx hb hr (fun t ht hW => ⟨⟨_, (), rfl, rfl, (by show va_P D vwCl _ t.heap; rw [ht]; exact hP)⟩, hS.F ht⟩) hS.2.2 dX3_least_106
  · have hf := ipos h6 hf
    refine lv_iconst (v := 0) hx hb dX3_least_11 (by decide) ?_
    cases hf
    refine W.widen (k := 0) (n := 0) (Nat.le_of_ble_eq_true rfl) (Nat.le_of_ble_eq_true rfl) ?_
    exact W.iret hx hb hr (fun t ht hW => ⟨⟨_, (), rfl, rfl, (by show va_P D vwCl _ t.heap; rw [ht]; exact hP)⟩, hS.F ht⟩) hS.2.2 dX3_least_12
