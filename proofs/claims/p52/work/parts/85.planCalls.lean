/-! ===== what the plan answers ===== -/
theorem QT_TT {trm w : Nat → Int32} (h : QT trm w) : TT (tI trm) ∧ WX w trm := by
  obtain ⟨h1, h2, h3, h4, h5, h6, h7, h8, h9, h10, h11, h12, h13, h14, h15, h16, h17⟩ := h
  have q0 : w 2432 = trm 0 ∧ 0 ≤ trm 0 ∧ trm 0 ≤ 9 := h1 0 (by decide) (by decide)
  have q1 : w 2433 = trm 1 ∧ 0 ≤ trm 1 ∧ trm 1 ≤ 9 := h1 1 (by decide) (by decide)
  have q2 : w 2434 = trm 2 ∧ 0 ≤ trm 2 ∧ trm 2 ≤ 9 := h1 2 (by decide) (by decide)
  have q3 : w 2435 = trm 3 ∧ 0 ≤ trm 3 ∧ trm 3 ≤ 9 := h1 3 (by decide) (by decide)
  have q4 : w 2436 = trm 4 ∧ 0 ≤ trm 4 ∧ trm 4 ≤ 9 := h1 4 (by decide) (by decide)
  have z0 : (0 : Int32).toInt = 0 := rfl
  have z1 : (1 : Int32).toInt = 1 := rfl
  have z9 : (9 : Int32).toInt = 9 := rfl
  have z99 : (99 : Int32).toInt = 99 := rfl
  have z20 : (20 : Int32).toInt = 20 := rfl
  have z60 : (60 : Int32).toInt = 60 := rfl
  rw [i_le, i_le, z0, z9] at q0 q1 q2 q3 q4
  rw [i_le, z0] at h4 h7 h10 h16
  rw [i_le, z99] at h5
  rw [i_le, z20] at h8 h11 h17
  rw [i_le, z60] at h14
  rw [i_le, i_inc (by omega)] at h13
  have s1 : (trm 0 + trm 1).toInt = _ := i_add (by omega) (by omega)
  have s2 : (trm 0 + trm 1 + trm 2).toInt = _ := i_add (by omega) (by omega)
  have s3 : (trm 0 + trm 1 + trm 2 + trm 3).toInt = _ := i_add (by omega) (by omega)
  have s4 : (trm 0 + trm 1 + trm 2 + trm 3 + trm 4).toInt = _ := i_add (by omega) (by omega)
  rw [i_le, z1, s4, s3, s2, s1] at h2
  refine ⟨⟨fun i hi => ?_, h2, h4, h5, h7, h8, h10, h11, h13, h14, h16, h17⟩, fun i hi => ?_, h3, h6, h9, h12, h15⟩
  · have e : i = 0 ∨ i = 1 ∨ i = 2 ∨ i = 3 ∨ i = 4 := by omega
    rcases e with e | e | e | e | e <;> subst e
    · exact q0.2
    · exact q1.2
    · exact q2.2
    · exact q3.2
    · exact q4.2
  · have e : i = 0 ∨ i = 1 ∨ i = 2 ∨ i = 3 ∨ i = 4 := by omega
    rcases e with e | e | e | e | e <;> subst e
    · exact q0.1
    · exact q1.1
    · exact q2.1
    · exact q3.1
    · exact q4.1
theorem WX_same {w x x' : Nat → Int32} (h : WX w x) (e : ∀ i : Nat, i < 10 → x' i = x i) : WX w x' := by
  obtain ⟨h1, h2, h3, h4, h5, h6⟩ := h
  exact ⟨fun i hi => by rw [e i (by omega)]; exact h1 i hi, by rw [e 5 (by omega)]; exact h2, by rw [e 6 (by omega)]; exact h3, by rw [e 7 (by omega)]; exact h4, by rw [e 8 (by omega)]; exact h5, by rw [e 9 (by omega)]; exact h6⟩
theorem bnd5_s {α1 α2 α3 α4 α5 δ : Type} {a : α1} {b : α2} {c : α3} {d : α4} {e : α5} {f : α1 → α2 → α3 → α4 → α5 → Option δ} : bnd5 (some (a, b, c, d, e)) f = f a b c d e := rfl
theorem bnd1_s {α1 δ : Type} {a : α1} {f : α1 → Option δ} : bnd1 (some a) f = f a := rfl
theorem n_isPlan {v1 v2 c : Int32} {w x : Nat → Int32} {sg pn sc : Nat → Int64} (hX : WX w x) (hT : TT (tI x)) :
    (¬ ((1 ≤ v1 ∧ v1 ≤ 5) ∧ -20 ≤ v2 ∧ v2 ≤ x 9) ∧ f_Y8_isPlan v1 v2 c w sg pn sc = some (0, 1, sg, pn, sc)) ∨ (((1 ≤ v1 ∧ v1 ≤ 5) ∧ -20 ≤ v2 ∧ v2 ≤ x 9) ∧ ∃ sg' pn' sc', f_Y8_isPlan v1 v2 c w sg pn sc = some (1, 0, sg', pn', sc') ∧ MS (tI x) 5 sg' pn' sc') := by
  have x9 : w (2441 : Int32).toNatClampNeg = x 9 := hX.2.2.2.2.2
  unfold f_Y8_isPlan f_Y8_isPlan_J31 f_Y8_isPlan_J32
  rw [n_in]
  simp only [bnd1, bnd2, Option.bind_some]
  by_cases h1 : 1 ≤ v1 ∧ v1 ≤ 5
  · rw [if_pos h1, if_neg one_ne, gd_2450 (by decide) (by decide), x9, n_in]
    simp only [Option.bind_some]
    by_cases h2 : -20 ≤ v2 ∧ v2 ≤ x 9
    · right
      obtain ⟨sg', pn', sc', p1, p2⟩ := s_plans (sg := sg) (pn := pn) (sc := sc) hX hT
      refine ⟨⟨h1, h2⟩, sg', pn', sc', ?_, p2⟩
      rw [if_pos h2, if_neg one_ne, can_t]
      simp only [Option.bind_some, if_neg one_ne]
      rw [p1]
      simp only [bnd3, Option.bind_some]
    · left
      refine ⟨fun z => h2 z.2, ?_⟩
      rw [if_neg h2, can_f]
      simp only [Option.bind_some, ↓reduceIte]
  · left
    refine ⟨fun z => h1 z.1, ?_⟩
    rw [if_neg h1, can_f]
    simp only [Option.bind_some, ↓reduceIte]
theorem v_per {v : Int32} (h : 1 ≤ v ∧ v ≤ 5) : ∃ n : Nat, n < 5 ∧ v = Int32.ofNat (n + 1) := by
  obtain ⟨h1, h2⟩ := h
  have z1 : (1 : Int32).toInt = 1 := rfl
  have z5 : (5 : Int32).toInt = 5 := rfl
  rw [i_le, z1] at h1
  rw [i_le, z5] at h2
  refine ⟨v.toInt.toNat - 1, by omega, ?_⟩
  rw [i_eq, (on_k (by omega)).2.1]
  omega
theorem ac_eq {t : Nat → Int} {n : Nat} {y : Int} (h : ac t n y = y) : ¬ isO t n (pl t n) y := by
  intro z
  unfold ac at h
  rw [if_pos z] at h
  have z1 := z.1
  have := (tg_LA (G := Gg t n (pl t n)) (cap := t 9) (t 9 - y - 1).toNat).1
  omega
theorem n_low {w x : Nat → Int32} {sg pn sc : Nat → Int64} {n : Nat} (hX : WX w x) (hT : TT (tI x)) (hn : n < 5) (hM : MS (tI x) 5 sg pn sc) :
    ∃ r, loop (fun z => f_Y8_lowBound_L14 (Int32.ofNat (n + 1)) 0 w sg pn sc z) fu (-20) = some r ∧ LW (tI x) n (-20) r.toInt := by
  have c01 : 0 ≤ tI x 9 ∧ tI x 9 ≤ 20 := by obtain ⟨-, -, -, -, -, -, -, -, -, -, c0, c1⟩ := hT; exact ⟨c0, c1⟩
  have l0 : lw (n + 1) ≤ -20 := by unfold lw; omega
  refine lp_one (f := fun z => f_Y8_lowBound_L14 (Int32.ofNat (n + 1)) 0 w sg pn sc z) (fun z => -20 ≤ z.toInt ∧ z.toInt ≤ tI x 9 ∧ ∀ y, -20 ≤ y → y < z.toInt → isO (tI x) n (pl (tI x) n) y) _ (fun z => (30 - z.toInt).toNat) ?_ fu _ ⟨by decide, by rw [show (-20 : Int32).toInt = -20 from rfl]; omega, fun y y0 y1 => ?_⟩ ?_
  · rintro z ⟨q1, q2, q3⟩
    obtain ⟨r, r1, r2⟩ := n_actAt (sg := sg) (sc := sc) (v := z) hX hT hn (hM.1 (n + 1) (by omega)) (by omega) q2 (fun y y0 y1 => (hM.2 n hn y y0 y1).1)
    unfold f_Y8_lowBound_L14
    rw [r1]
    simp only [bnd1, Option.bind_some]
    by_cases e : r = z
    · right
      rw [if_pos e]
      exact ⟨z, rfl, q1, q2, ac_eq (by rw [← r2, e]), q3⟩
    · left
      rw [if_neg e]
      have hO : isO (tI x) n (pl (tI x) n) z.toInt := by
        apply Classical.byContradiction
        intro hh
        apply e
        rw [i_eq, r2]
        unfold ac
        rw [if_neg hh]
      have e1 : (z + 1).toInt = z.toInt + 1 := i_inc (by omega)
      have := hO.1
      refine ⟨_, rfl, ⟨by omega, by omega, fun y y0 y1 => ?_⟩, by omega⟩
      by_cases ey : y = z.toInt
      · rw [ey]; exact hO
      · exact q3 y y0 (by omega)
  · rw [show (-20 : Int32).toInt = -20 from rfl] at y1; omega
  · decide
theorem p_lowBound {v1 c : Int32} {trm w pt lo hi act : Nat → Int32} {bo co sg pn sc o : Nat → Int64} (hQ : QT trm w) (hP : PL pt lo hi bo co act) :
    ∃ k pt' lo' hi' bo' co' act' o' b sg' pn' sc', f_W_lowBound v1 trm pt lo hi bo co act o = some (k, pt', lo', hi', bo', co', act', o') ∧ f_Y8_lowBound v1 c w sg pn sc = some (b, k, sg', pn', sc') ∧ PL pt' lo' hi' bo' co' act' ∧ (k = 0 → o' 0 = b.toInt64) := by
  obtain ⟨hT, hX⟩ := QT_TT hQ
  have c0 : 0 ≤ tI trm 9 := by obtain ⟨-, -, -, -, -, -, -, -, -, -, c0, c1⟩ := hT; exact c0
  have h0 : -20 ≤ (0 : Int32) ∧ (0 : Int32) ≤ trm 9 := ⟨by decide, by rw [i_le]; exact c0⟩
  by_cases h1 : 1 ≤ v1 ∧ v1 ≤ 5
  · obtain ⟨n, hn, e⟩ := v_per h1
    obtain ⟨pt', lo', hi', bo', co', act', s1, s2, s3, s4, s5⟩ := s_solve hP hT
    have hX' := WX_same hX s2
    rcases n_isPlan (v1 := v1) (v2 := 0) (c := c) (sg := sg) (pn := pn) (sc := sc) hX' s5 with ⟨z, -⟩ | ⟨-, sg', pn', sc', z1, z2⟩
    · exact absurd ⟨h1, by rw [s2 9 (by omega)]; exact h0⟩ z
    · obtain ⟨r, r1, r2⟩ := n_low (pn := pn') hX' s5 hn z2
      have hr : lo' (n + 1) = r := by
        rw [i_eq]
        exact LW_uniq (s3.2 n hn).2.1 r2
      refine ⟨0, pt', lo', hi', bo', co', act', vp_updL o (0 : Int32).toNatClampNeg (lo' (n + 1)).toInt64, r, sg', pn', sc', ?_, ?_, s4, fun _ => by rw [← hr]; rfl⟩
      · unfold f_W_lowBound f_X7_lowBound
        rw [n_range, if_pos h1]
        simp only [bnd1, Option.bind_some, mx]
        rw [s1]
        simp only [bnd6, bnd7, Option.bind_some]
        subst e
        rw [gd_6 (on_k (by omega)).2.2 ((on_lt (k := n + 1) (m := 6) (by omega) (by omega)).mpr (by omega)), (on_k (show n + 1 < 100000 by omega)).1]
        simp only [Option.bind_some, mx]
        rw [gd_1 (by decide) (by decide)]
      · unfold f_Y8_lowBound
        rw [z1]
        subst e
        rw [bnd5_s, if_neg one_ne, r1]
        rfl
  · refine ⟨1, pt, lo, hi, bo, co, act, o, 0, sg, pn, sc, ?_, ?_, hP, fun z => absurd z (by decide)⟩
    · unfold f_W_lowBound f_X7_lowBound
      rw [n_range, if_neg h1]
      simp only [bnd1, bnd7, Option.bind_some, mx, ↓reduceIte]
    · rcases n_isPlan (v1 := v1) (v2 := 0) (c := c) (sg := sg) (pn := pn) (sc := sc) hX hT with ⟨-, z⟩ | ⟨z, -⟩
      · unfold f_Y8_lowBound
        rw [z]
        simp only [bnd5, Option.bind_some, ↓reduceIte]
      · exact absurd z.1 h1
theorem LA_step {G : Int → Int} {lo hi z : Int} (h : LA G lo hi z) : LA G lo (hi + 1) (if G (hi + 1) < G z then hi + 1 else z) := by
  obtain ⟨a, b, c⟩ := h
  by_cases e : G (hi + 1) < G z
  · rw [if_pos e]
    refine ⟨by omega, Int.le_refl _, fun x x0 x1 => ?_⟩
    by_cases ex : x = hi + 1
    · rw [ex]; exact Or.inr ⟨rfl, Int.le_refl _⟩
    · have := c x x0 (by omega)
      omega
  · rw [if_neg e]
    refine ⟨a, by omega, fun x x0 x1 => ?_⟩
    by_cases ex : x = hi + 1
    · rw [ex]; omega
    · exact c x x0 (by omega)
theorem n_highCost {w x : Nat → Int32} {sg pn sc : Nat → Int64} {n : Nat} {v : Int32} (hX : WX w x) (hT : TT (tI x)) (hn : n < 5) (hM : MS (tI x) 5 sg pn sc) (v0 : -20 ≤ v.toInt) (v1 : v.toInt ≤ tI x 9) :
    ∃ r, f_Y8_highCost (Int32.ofNat (n + 1)) v w sg sc = some r ∧ r.toInt = Gg (tI x) n (pl (tI x) n) v.toInt := by
  have c01 : 0 ≤ tI x 9 ∧ tI x 9 ≤ 20 := by obtain ⟨-, -, -, -, -, -, -, -, -, -, c0, c1⟩ := hT; exact ⟨c0, c1⟩
  have h6 : 0 ≤ tI x 6 ∧ tI x 6 ≤ 20 := by obtain ⟨-, -, -, -, h6, h6', -⟩ := hT; exact ⟨h6, h6'⟩
  have l0 : lw (n + 1) ≤ -20 := by unfold lw; omega
  have l1 : -40 ≤ lw (n + 1) := by unfold lw; omega
  obtain ⟨k1, k2, k3, k4⟩ := cl_rng (n := n + 1) (y := v.toInt) (by omega) (by omega) (by omega)
  have x6 : w (2438 : Int32).toNatClampNeg = x 6 := hX.2.2.1
  have e6 : (x 6).toInt64.toInt = tI x 6 := i64_of
  have ev : v.toInt64.toInt = v.toInt := i64_of
  have en : (Int32.ofNat (n + 1)).toNatClampNeg = n + 1 := (on_k (by omega)).1
  have hb := hM.1 (n + 1) (by omega)
  have hs := (hM.2 n hn v.toInt (by omega) v1).1
  obtain ⟨b1, b2, b3, b4, -⟩ := sv_bnd hT hn (y := v.toInt) (by omega) v1
  have S1 := Sc_le hT (n := n + 1) (by omega)
  have m1 : -400 ≤ tI x 6 * v.toInt ∧ tI x 6 * v.toInt ≤ 400 := by
    have a1 := Int.mul_le_mul_of_nonneg_left v0 h6.1
    have a2 := Int.mul_le_mul_of_nonneg_left (show v.toInt ≤ 20 by omega) h6.1
    omega
  have p1 : ((x 6).toInt64 * v.toInt64).toInt = tI x 6 * v.toInt := by rw [i64_mul (by rw [e6, ev]; omega) (by rw [e6, ev]; omega), e6, ev]
  have e0 : tI x 6 * v.toInt * Sc (tI x) (n + 1) = tI x 6 * Sc (tI x) (n + 1) * v.toInt := by
    rw [Int.mul_assoc, Int.mul_assoc, Int.mul_comm v.toInt]
  have p2 : ((x 6).toInt64 * v.toInt64 * sc (n + 1)).toInt = tI x 6 * Sc (tI x) (n + 1) * v.toInt := by
    rw [i64_mul (by rw [p1, hb, e0]; omega) (by rw [p1, hb, e0]; omega), p1, hb, e0]
  refine ⟨(x 6).toInt64 * v.toInt64 * sc (n + 1) + sg (cl (n + 1) v.toInt), ?_, ?_⟩
  · unfold f_Y8_highCost
    rw [gd_2450 (by decide) (by decide), gd_6 (on_k (by omega)).2.2 ((on_lt (k := n + 1) (m := 6) (by omega) (by omega)).mpr (by omega)), n_cellOf (by omega) (by omega) (by omega), bnd1_s, gd_366 k2 k3, k1, en, x6]
  · rw [i64_add (by rw [p2, hs]; omega) (by rw [p2, hs]; omega), p2, hs]
    unfold Gg
    omega
theorem n_high {w x : Nat → Int32} {sg pn sc : Nat → Int64} {n : Nat} (hX : WX w x) (hT : TT (tI x)) (hn : n < 5) (hM : MS (tI x) 5 sg pn sc) :
    ∃ r, loop (fun z => f_Y8_highBound_L17 (Int32.ofNat (n + 1)) 0 w sg pn sc z.1 z.2) fu (-20, -19) = some r ∧ LA (Gg (tI x) n (pl (tI x) n)) (-20) (tI x 9) r.toInt := by
  have c01 : 0 ≤ tI x 9 ∧ tI x 9 ≤ 20 := by obtain ⟨-, -, -, -, -, -, -, -, -, -, c0, c1⟩ := hT; exact ⟨c0, c1⟩
  have x9 : w (2441 : Int32).toNatClampNeg = x 9 := hX.2.2.2.2.2
  have e9 : (x 9).toInt = tI x 9 := rfl
  have i20 : (-20 : Int32).toInt = -20 := rfl
  have i19 : (-19 : Int32).toInt = -19 := rfl
  refine lp_one (f := fun z => f_Y8_highBound_L17 (Int32.ofNat (n + 1)) 0 w sg pn sc z.1 z.2) (fun z => -19 ≤ z.2.toInt ∧ z.2.toInt ≤ tI x 9 + 1 ∧ LA (Gg (tI x) n (pl (tI x) n)) (-20) (z.2.toInt - 1) z.1.toInt) _ (fun z => (30 - z.2.toInt).toNat) ?_ fu _ ⟨by rw [i19]; omega, by rw [i19]; omega, ?_⟩ ?_
  · rintro ⟨b, z⟩ ⟨q1, q2, q3⟩
    dsimp only at q1 q2 q3
    unfold f_Y8_highBound_L17 f_Y8_highBound_L17_J50
    rw [gd_2450 (by decide) (by decide), x9]
    by_cases h : x 9 < z
    · right
      rw [if_pos h]
      rw [i_lt, e9] at h
      refine ⟨b, rfl, ?_⟩
      rw [show tI x 9 = z.toInt - 1 by omega]
      exact q3
    · left
      rw [if_neg h]
      rw [i_lt, e9] at h
      obtain ⟨r1, s1, s2⟩ := n_highCost (v := z) hX hT hn hM (by omega) (by omega)
      obtain ⟨r2, s3, s4⟩ := n_highCost (v := b) hX hT hn hM q3.1 (by have := q3.2.1; omega)
      rw [s1, bnd1_s, s3, bnd1_s]
      have e1 : (z + 1).toInt = z.toInt + 1 := i_inc (by omega)
      have st := LA_step q3
      rw [show z.toInt - 1 + 1 = z.toInt by omega, ← s2, ← s4] at st
      by_cases hc : 0 ≤ lg_cmp r1 r2
      · rw [if_pos hc]
        have hc2 := lg_lt.2.1.mp hc
        rw [if_neg (by omega)] at st
        refine ⟨_, rfl, ⟨by dsimp only; omega, by dsimp only; omega, ?_⟩, by dsimp only; omega⟩
        dsimp only
        rw [e1, show z.toInt + 1 - 1 = z.toInt by omega]
        exact st
      · rw [if_neg hc]
        have hc2 : r1.toInt < r2.toInt := by
          apply Classical.byContradiction
          intro y
          exact hc (lg_lt.2.1.mpr (by omega))
        rw [if_pos hc2] at st
        refine ⟨_, rfl, ⟨by dsimp only; omega, by dsimp only; omega, ?_⟩, by dsimp only; omega⟩
        dsimp only
        rw [e1, show z.toInt + 1 - 1 = z.toInt by omega]
        exact st
  · dsimp only
    rw [i19, i20]
    exact ⟨by omega, by omega, fun y y0 y1 => by rw [show y = -20 by omega]; exact Or.inr ⟨rfl, Int.le_refl _⟩⟩
  · dsimp only
    rw [i19]
    unfold fu
    omega
theorem p_highBound {v1 c : Int32} {trm w pt lo hi act : Nat → Int32} {bo co sg pn sc o : Nat → Int64} (hQ : QT trm w) (hP : PL pt lo hi bo co act) :
    ∃ k pt' lo' hi' bo' co' act' o' b sg' pn' sc', f_W_highBound v1 trm pt lo hi bo co act o = some (k, pt', lo', hi', bo', co', act', o') ∧ f_Y8_highBound v1 c w sg pn sc = some (b, k, sg', pn', sc') ∧ PL pt' lo' hi' bo' co' act' ∧ (k = 0 → o' 0 = b.toInt64) := by
  obtain ⟨hT, hX⟩ := QT_TT hQ
  have c0 : 0 ≤ tI trm 9 := by obtain ⟨-, -, -, -, -, -, -, -, -, -, c0, c1⟩ := hT; exact c0
  have h0 : -20 ≤ (0 : Int32) ∧ (0 : Int32) ≤ trm 9 := ⟨by decide, by rw [i_le]; exact c0⟩
  by_cases h1 : 1 ≤ v1 ∧ v1 ≤ 5
  · obtain ⟨n, hn, e⟩ := v_per h1
    obtain ⟨pt', lo', hi', bo', co', act', s1, s2, s3, s4, s5⟩ := s_solve hP hT
    have hX' := WX_same hX s2
    rcases n_isPlan (v1 := v1) (v2 := 0) (c := c) (sg := sg) (pn := pn) (sc := sc) hX' s5 with ⟨z, -⟩ | ⟨-, sg', pn', sc', z1, z2⟩
    · exact absurd ⟨h1, by rw [s2 9 (by omega)]; exact h0⟩ z
    · obtain ⟨r, r1, r2⟩ := n_high hX' s5 hn z2
      have hr : hi' (n + 1) = r := by
        rw [i_eq, (s3.2 n hn).2.2]
        have c9 : 0 ≤ tI pt' 9 := by obtain ⟨-, -, -, -, -, -, -, -, -, -, c0, c1⟩ := s5; exact c0
        have y := tg_LA (G := Gg (tI pt') n (pl (tI pt') n)) (cap := tI pt' 9) (tI pt' 9 + 20).toNat
        rw [show tI pt' 9 - ((tI pt' 9 + 20).toNat : Int) = -20 by omega] at y
        exact LA_uniq y r2
      refine ⟨0, pt', lo', hi', bo', co', act', vp_updL o (0 : Int32).toNatClampNeg (hi' (n + 1)).toInt64, r, sg', pn', sc', ?_, ?_, s4, fun _ => by rw [← hr]; rfl⟩
      · unfold f_W_highBound f_X7_highBound
        rw [n_range, if_pos h1]
        simp only [bnd1, Option.bind_some, mx]
        rw [s1]
        simp only [bnd6, bnd7, Option.bind_some]
        subst e
        rw [gd_6 (on_k (by omega)).2.2 ((on_lt (k := n + 1) (m := 6) (by omega) (by omega)).mpr (by omega)), (on_k (show n + 1 < 100000 by omega)).1]
        simp only [Option.bind_some, mx]
        rw [gd_1 (by decide) (by decide)]
      · unfold f_Y8_highBound
        rw [z1]
        subst e
        rw [bnd5_s, if_neg one_ne, r1]
        rfl
  · refine ⟨1, pt, lo, hi, bo, co, act, o, 0, sg, pn, sc, ?_, ?_, hP, fun z => absurd z (by decide)⟩
    · unfold f_W_highBound f_X7_highBound
      rw [n_range, if_neg h1]
      simp only [bnd1, bnd7, Option.bind_some, mx, ↓reduceIte]
    · rcases n_isPlan (v1 := v1) (v2 := 0) (c := c) (sg := sg) (pn := pn) (sc := sc) hX hT with ⟨-, z⟩ | ⟨z, -⟩
      · unfold f_Y8_highBound
        rw [z, bnd5_s, if_pos rfl]
      · exact absurd z.1 h1
theorem p_bestAct {v1 v2 c : Int32} {trm w pt lo hi act : Nat → Int32} {bo co sg pn sc o : Nat → Int64} (hQ : QT trm w) (hP : PL pt lo hi bo co act) :
    ∃ k pt' lo' hi' bo' co' act' o' b sg' pn' sc', f_W_bestAct v1 v2 trm pt lo hi bo co act o = some (k, pt', lo', hi', bo', co', act', o') ∧ f_Y8_bestAct v1 v2 c w sg pn sc = some (b, k, sg', pn', sc') ∧ PL pt' lo' hi' bo' co' act' ∧ (k = 0 → o' 0 = b.toInt64) := by
  obtain ⟨hT, hX⟩ := QT_TT hQ
  have c01 : 0 ≤ tI trm 9 ∧ tI trm 9 ≤ 20 := by obtain ⟨-, -, -, -, -, -, -, -, -, -, c0, c1⟩ := hT; exact ⟨c0, c1⟩
  have k9 : trm (9 : Int32).toNatClampNeg = trm 9 := rfl
  by_cases h1 : 1 ≤ v1 ∧ v1 ≤ 5
  · by_cases h2 : -20 ≤ v2 ∧ v2 ≤ trm 9
    · obtain ⟨n, hn, e⟩ := v_per h1
      obtain ⟨pt', lo', hi', bo', co', act', s1, s2, s3, s4, s5⟩ := s_solve hP hT
      have hX' := WX_same hX s2
      have e9 : tI pt' 9 = tI trm 9 := by show (pt' 9).toInt = (trm 9).toInt; rw [s2 9 (by omega)]
      have v0 : -20 ≤ v2.toInt := by have := i_le.mp h2.1; exact this
      have v9 : v2.toInt ≤ tI trm 9 := i_le.mp h2.2
      have l0 : lw (n + 1) ≤ -20 := by unfold lw; omega
      obtain ⟨k1, k2, k3, k4⟩ := cl_rng (n := n + 1) (y := v2.toInt) (by omega) (by omega) (by omega)
      rcases n_isPlan (v1 := v1) (v2 := v2) (c := c) (sg := sg) (pn := pn) (sc := sc) hX' s5 with ⟨z, -⟩ | ⟨-, sg', pn', sc', z1, z2⟩
      · exact absurd ⟨h1, by rw [s2 9 (by omega)]; exact h2⟩ z
      · obtain ⟨r, r1, r2⟩ := n_actAt (sg := sg') (sc := sc') (v := v2) hX' s5 hn (z2.1 (n + 1) (by omega)) (by omega) (by omega) (fun y y0 y1 => (z2.2 n hn y y0 y1).1)
        have hr : act' (cl (n + 1) v2.toInt) = r := by
          rw [i_eq, r2]
          exact ((s3.2 n hn).1 v2.toInt (by omega) (by omega)).2
        refine ⟨0, pt', lo', hi', bo', co', act', vp_updL o (0 : Int32).toNatClampNeg (act' (cl (n + 1) v2.toInt)).toInt64, r, sg', pn', sc', ?_, ?_, s4, fun _ => by rw [← hr]; rfl⟩
        · unfold f_W_bestAct f_X7_bestAct
          rw [n_range, if_pos h1]
          simp only [bnd1, Option.bind_some, mx]
          rw [gd_10 (by decide) (by decide), n_range, k9, if_pos h2]
          simp only [Option.bind_some]
          rw [s1]
          simp only [bnd6, bnd7, Option.bind_some]
          subst e
          rw [n_cell (by omega) (by omega) (by omega)]
          simp only [Option.bind_some]
          rw [gd_366 k2 k3, k1]
          simp only [Option.bind_some, mx]
          rw [gd_1 (by decide) (by decide)]
        · unfold f_Y8_bestAct
          rw [z1]
          subst e
          rw [bnd5_s, if_neg one_ne, r1]
          rfl
    · refine ⟨1, pt, lo, hi, bo, co, act, o, 0, sg, pn, sc, ?_, ?_, hP, fun z => absurd z (by decide)⟩
      · unfold f_W_bestAct f_X7_bestAct
        rw [n_range, if_pos h1]
        simp only [bnd1, bnd7, Option.bind_some, mx]
        rw [gd_10 (by decide) (by decide), n_range, k9, if_neg h2]
        simp only [Option.bind_some, ↓reduceIte]
      · rcases n_isPlan (v1 := v1) (v2 := v2) (c := c) (sg := sg) (pn := pn) (sc := sc) hX hT with ⟨-, z⟩ | ⟨z, -⟩
        · unfold f_Y8_bestAct
          rw [z, bnd5_s, if_pos rfl]
        · exact absurd z.2 h2
  · refine ⟨1, pt, lo, hi, bo, co, act, o, 0, sg, pn, sc, ?_, ?_, hP, fun z => absurd z (by decide)⟩
    · unfold f_W_bestAct f_X7_bestAct
      rw [n_range, if_neg h1]
      simp only [bnd1, bnd7, Option.bind_some, mx, ↓reduceIte]
    · rcases n_isPlan (v1 := v1) (v2 := v2) (c := c) (sg := sg) (pn := pn) (sc := sc) hX hT with ⟨-, z⟩ | ⟨z, -⟩
      · unfold f_Y8_bestAct
        rw [z, bnd5_s, if_pos rfl]
      · exact absurd z.1 h1
/-! ===== fractions in lowest terms ===== -/
theorem i64_mod {x y : Int64} (hx : 0 ≤ x.toInt) (hy : 0 < y.toInt) : (x - x / y * y).toInt = x.toInt % y.toInt := by
  have rx := fb_rngL x
  have ry := fb_rngL y
  have d0 : (x / y).toInt = x.toInt / y.toInt := by
    rw [Int64.toInt_div_of_ne_left x y (fun h => by rw [h] at hx; exact absurd hx (by decide)), Int.tdiv_eq_ediv_of_nonneg hx]
  have e := Int.mul_ediv_add_emod x.toInt y.toInt
  have m0 := Int.emod_nonneg x.toInt (show y.toInt ≠ 0 by omega)
  have q0 : 0 ≤ x.toInt / y.toInt := Int.ediv_nonneg hx (by omega)
  have c : x.toInt / y.toInt * y.toInt = y.toInt * (x.toInt / y.toInt) := Int.mul_comm _ _
  have p0 : 0 ≤ y.toInt * (x.toInt / y.toInt) := Int.mul_nonneg (by omega) q0
  have m : (x / y * y).toInt = x.toInt / y.toInt * y.toInt := by
    rw [fb_mulL (by rw [d0]; omega) (by rw [d0]; omega), d0]
  rw [fb_subL (by rw [m]; omega) (by rw [m]; omega), m]
  omega
theorem half_mod {x y : Int} (hy : 0 < y) (h : y ≤ x) : 2 * (y * (x % y)) ≤ x * y := by
  have e := Int.mul_ediv_add_emod x y
  have m0 := Int.emod_nonneg x (show y ≠ 0 by omega)
  have m1 := Int.emod_lt_of_pos x hy
  have q1 : 1 ≤ x / y := by
    have := Int.ediv_le_ediv hy h
    rwa [Int.ediv_self (by omega)] at this
  have p : y * 1 ≤ y * (x / y) := Int.mul_le_mul_of_nonneg_left q1 (by omega)
  have h2 : 2 * (x % y) ≤ x := by omega
  have := Int.mul_le_mul_of_nonneg_left h2 (show 0 ≤ y by omega)
  have c1 : y * (2 * (x % y)) = 2 * (y * (x % y)) := by rw [← Int.mul_assoc, Int.mul_comm y 2, Int.mul_assoc]
  rw [c1, Int.mul_comm y x] at this
  exact this
theorem n_gcd {x y : Int64} (hx : 0 ≤ x.toInt) (hy : 1 ≤ y.toInt) (hb : x.toInt * y.toInt < 2 ^ 99) : ∃ r, f_Y8_common x y = some r ∧ f_X7_commonDivisor x y = some r ∧ r ≠ 0 := by
  have z0 : (0 : Int64).toInt = 0 := rfl
  obtain ⟨e, d, q1, q2, q3, q4⟩ := lp_rel (f := fun z : Int64 × Int64 × Int32 => f_X7_commonDivisor_L9 z.1 z.2.1 z.2.2) (g := fun z : Int64 × Int64 => f_Y8_common_L6 z.1 z.2)
    (fun s t => s.1 = t.1 ∧ s.2.1 = t.2 ∧ 0 ≤ t.1.toInt ∧ 0 ≤ t.2.toInt ∧ (t.2.toInt = 0 → 1 ≤ t.1.toInt) ∧ ∃ n : Nat, s.2.2 = Int32.ofNat n ∧ n ≤ 100 ∧ (n = 0 ∨ t.2.toInt ≤ t.1.toInt) ∧ t.1.toInt * t.2.toInt < 2 ^ (100 - n) ∧ (n = 0 → t.1.toInt * t.2.toInt < 2 ^ 99)) (fun e d => e = d ∧ d ≠ 0) (fun s => msr s.2.2 1000) (by
    rintro ⟨a, b, k⟩ ⟨a', b'⟩ ⟨h1, h2, h3, h4, h5, n, h6, h7, h8, h9, h10⟩
    dsimp only at h1 h2 h3 h4 h5 h6 h7 h8 h9 h10 ⊢
    subst h1 h2 h6
    unfold f_X7_commonDivisor_L9 f_Y8_common_L6
    rw [if_neg (show ¬ (1000 : Int32) ≤ Int32.ofNat n from fun z => absurd ((on_le (k := 1000) (m := n) (by omega) (by omega)).mp z) (by omega))]
    by_cases hz : lg_cmp b 0 = 0
    · right
      rw [if_pos hz, if_pos hz]
      have b0 := lg_lt.2.2.mp hz
      rw [z0] at b0
      refine ⟨a, a, rfl, rfl, rfl, fun e => ?_⟩
      have := h5 b0
      rw [e, z0] at this
      omega
    · left
      rw [if_neg hz, if_neg hz]
      have b0 : b.toInt ≠ 0 := fun e => hz (lg_lt.2.2.mpr (by rw [z0]; exact e))
      have bn : b ≠ 0 := fun e => b0 (by rw [e]; rfl)
      have gzz : ∀ {α : Type} {t : Option α}, gz b t = t := by
        intro α t
        unfold gz
        rw [if_neg (by simpa using bn)]
      rw [gzz, gzz, on_inc]
      have m := i64_mod (x := a) (y := b) h3 (by omega)
      have m0 := Int.emod_nonneg a.toInt b0
      have m1 := Int.emod_lt_of_pos a.toInt (show 0 < b.toInt by omega)
      have n1 : n < 100 := by
        apply Classical.byContradiction
        intro z
        have en : n = 100 := by omega
        subst en
        rcases h8 with y | y
        · omega
        · have := Int.mul_le_mul_of_nonneg_left (show 1 ≤ b.toInt by omega) h3
          have e2 : (2 : Int) ^ (100 - 100) = 1 := rfl
          rw [e2] at h9
          omega
      refine ⟨_, _, rfl, rfl, ⟨rfl, rfl, by dsimp only; omega, by dsimp only; rw [m]; exact m0, fun _ => by dsimp only; omega, n + 1, rfl, by omega, Or.inr (by dsimp only; rw [m]; omega), ?_, fun z => absurd z (by omega)⟩, by dsimp only; rw [← on_inc]; exact msr_lt ((on_lt (k := n) (m := 1000) (by omega) (by omega)).mpr (by omega))⟩
      dsimp only
      rw [m]
      by_cases hc : b.toInt ≤ a.toInt
      · have h := half_mod (show 0 < b.toInt by omega) hc
        have e2 : (2 : Int) ^ (100 - n) = 2 ^ (100 - (n + 1)) * 2 := by
          rw [← Int.pow_succ]
          congr 1
          omega
        rw [e2] at h9
        omega
      · have en : n = 0 := by rcases h8 with y | y <;> omega
        subst en
        rw [Int.emod_eq_of_lt h3 (by omega), Int.mul_comm]
        exact h10 rfl) fu (x, y, 0) (x, y) ⟨rfl, rfl, hx, by dsimp only; omega, fun z => by dsimp only at z; omega, 0, rfl, by omega, Or.inl rfl, by dsimp only; omega, fun _ => hb⟩ (msr_fu (by dsimp only; decide) (by decide))
  subst q3
  refine ⟨e, ?_, ?_, q4⟩
  · unfold f_Y8_common
    rw [q2, bnd1_s]
  · unfold f_X7_commonDivisor
    rw [q1, bnd1_s]
theorem p_planCost {v1 v2 v3 c : Int32} {trm w pt lo hi act : Nat → Int32} {bo co sg pn sc o : Nat → Int64} (hQ : QT trm w) (hP : PL pt lo hi bo co act) :
    ∃ k pt' lo' hi' bo' co' act' o' b sg' pn' sc', f_W_planCost v1 v2 v3 trm pt lo hi bo co act o = some (k, pt', lo', hi', bo', co', act', o') ∧ f_Y8_planCost v1 v2 v3 c w sg pn sc = some (b, k, sg', pn', sc') ∧ PL pt' lo' hi' bo' co' act' ∧ (k = 0 → o' 0 = b) := by
  obtain ⟨hT, hX⟩ := QT_TT hQ
  have c01 : 0 ≤ tI trm 9 ∧ tI trm 9 ≤ 20 := by obtain ⟨-, -, -, -, -, -, -, -, -, -, c0, c1⟩ := hT; exact ⟨c0, c1⟩
  have k9 : trm (9 : Int32).toNatClampNeg = trm 9 := rfl
  have z0 : (0 : Int64).toInt = 0 := rfl
  by_cases h1 : 1 ≤ v1 ∧ v1 ≤ 5
  · by_cases h2 : -20 ≤ v2 ∧ v2 ≤ trm 9
    · obtain ⟨n, hn, e⟩ := v_per h1
      obtain ⟨pt', lo', hi', bo', co', act', s1, s2, s3, s4, s5⟩ := s_solve hP hT
      have hX' := WX_same hX s2
      have e9 : tI pt' 9 = tI trm 9 := by show (pt' 9).toInt = (trm 9).toInt; rw [s2 9 (by omega)]
      have v0 : -20 ≤ v2.toInt := by have := i_le.mp h2.1; exact this
      have v9 : v2.toInt ≤ tI trm 9 := i_le.mp h2.2
      have l0 : lw (n + 1) ≤ -20 := by unfold lw; omega
      obtain ⟨k1, k2, k3, k4⟩ := cl_rng (n := n + 1) (y := v2.toInt) (by omega) (by omega) (by omega)
      have en : (Int32.ofNat (n + 1)).toNatClampNeg = n + 1 := (on_k (by omega)).1
      have g1 : 0 ≤ Int32.ofNat (n + 1) := (on_k (by omega)).2.2
      have g2 : Int32.ofNat (n + 1) < 6 := (on_lt (k := n + 1) (m := 6) (by omega) (by omega)).mpr (by omega)
      rcases n_isPlan (v1 := v1) (v2 := v2) (c := c) (sg := sg) (pn := pn) (sc := sc) hX' s5 with ⟨z, -⟩ | ⟨-, sg', pn', sc', z1, z2⟩
      · exact absurd ⟨h1, by rw [s2 9 (by omega)]; exact h2⟩ z
      · have p1 := ((s3.2 n hn).1 v2.toInt (by omega) (by omega)).1
        have p2 := (z2.2 n hn v2.toInt (by omega) (by omega)).2
        have p3 := s3.1 (n + 1) (by omega)
        have p4 := z2.1 (n + 1) (by omega)
        have f1 : co' (cl (n + 1) v2.toInt) = pn' (cl (n + 1) v2.toInt) := i64_eq.mpr (by rw [p1, p2])
        have f2 : bo' (n + 1) = sc' (n + 1) := i64_eq.mpr (by rw [p3, p4])
        have rg := pl_rng s5 (n + 1) (by omega) v2.toInt (by omega) (by omega)
        have S1 := Sc_le s5 (n := n + 1) (by omega)
        have b1 : pl (tI pt') (n + 1) v2.toInt ≤ 12000 * 184528125 := by
          have a1 : 2400 * ((n + 1 : Nat) : Int) ≤ 12000 := by omega
          have a2 := Int.mul_le_mul_of_nonneg_right a1 (show 0 ≤ Sc (tI pt') (n + 1) by omega)
          omega
        have b2 : pl (tI pt') (n + 1) v2.toInt * Sc (tI pt') (n + 1) < 2 ^ 99 := by
          have := Int.mul_le_mul b1 S1.2 (by omega) (by omega)
          have e : (12000 * 184528125 * 184528125 : Int) < 2 ^ 99 := by decide
          omega
        obtain ⟨r, r1, r2, r3⟩ := n_gcd (x := pn' (cl (n + 1) v2.toInt)) (y := sc' (n + 1)) (by rw [p2]; exact rg.1) (by rw [p4]; exact S1.1) (by rw [p2, p4]; exact b2)
        have gzz : ∀ {α : Type} {t : Option α}, gz r t = t := by
          intro α t
          unfold gz
          rw [if_neg (by simpa using r3)]
        have nz : ¬ lg_cmp r 0 = 0 := fun y => r3 (by
          have := lg_lt.2.2.mp y
          rw [z0] at this
          exact i64_eq.mpr this)
        refine ⟨0, pt', lo', hi', bo', co', act', vp_updL o (0 : Int32).toNatClampNeg (if v3 = 0 then pn' (cl (n + 1) v2.toInt) / r else sc' (n + 1) / r), (if v3 = 0 then pn' (cl (n + 1) v2.toInt) / r else sc' (n + 1) / r), sg', pn', sc', ?_, ?_, s4, fun _ => rfl⟩
        · unfold f_W_planCost f_X7_planCost
          rw [n_range, if_pos h1]
          simp only [bnd1, Option.bind_some, mx]
          rw [gd_10 (by decide) (by decide), n_range, k9, if_pos h2]
          simp only [Option.bind_some]
          rw [s1]
          simp only [bnd6, bnd7, Option.bind_some]
          subst e
          rw [n_cell (by omega) (by omega) (by omega)]
          simp only [Option.bind_some]
          rw [gd_366 k2 k3, gd_6 g1 g2, k1, en, f1, f2, r2]
          simp only [Option.bind_some]
          rw [if_neg nz, gzz, gzz]
          by_cases h3 : v3 = 0
          · simp only [if_pos h3, Option.bind_some, mx]
            rw [gd_1 (by decide) (by decide)]
          · simp only [if_neg h3, Option.bind_some, mx]
            rw [gd_1 (by decide) (by decide)]
        · unfold f_Y8_planCost
          rw [z1]
          subst e
          rw [bnd5_s, if_neg one_ne, n_cellOf (by omega) (by omega) (by omega), bnd1_s, gd_366 k2 k3, gd_6 g1 g2, k1, en, r1, bnd1_s, gzz, gzz, gd_6 g1 g2]
          by_cases h3 : v3 = 0
          · rw [if_pos h3, if_pos h3]
          · rw [if_neg h3, if_neg h3]
    · refine ⟨1, pt, lo, hi, bo, co, act, o, 0, sg, pn, sc, ?_, ?_, hP, fun z => absurd z (by decide)⟩
      · unfold f_W_planCost f_X7_planCost
        rw [n_range, if_pos h1]
        simp only [bnd1, bnd7, Option.bind_some, mx]
        rw [gd_10 (by decide) (by decide), n_range, k9, if_neg h2]
        simp only [Option.bind_some, ↓reduceIte]
      · rcases n_isPlan (v1 := v1) (v2 := v2) (c := c) (sg := sg) (pn := pn) (sc := sc) hX hT with ⟨-, z⟩ | ⟨z, -⟩
        · unfold f_Y8_planCost
          rw [z, bnd5_s, if_pos rfl]
        · exact absurd z.2 h2
  · refine ⟨1, pt, lo, hi, bo, co, act, o, 0, sg, pn, sc, ?_, ?_, hP, fun z => absurd z (by decide)⟩
    · unfold f_W_planCost f_X7_planCost
      rw [n_range, if_neg h1]
      simp only [bnd1, bnd7, Option.bind_some, mx, ↓reduceIte]
    · rcases n_isPlan (v1 := v1) (v2 := v2) (c := c) (sg := sg) (pn := pn) (sc := sc) hX hT with ⟨-, z⟩ | ⟨z, -⟩
      · unfold f_Y8_planCost
        rw [z, bnd5_s, if_pos rfl]
      · exact absurd z.1 h1
theorem bnd8_s {α1 α2 α3 α4 α5 α6 α7 α8 δ : Type} {a : α1} {b : α2} {c : α3} {d : α4} {e : α5} {x : α6} {y : α7} {z : α8} {f : α1 → α2 → α3 → α4 → α5 → α6 → α7 → α8 → Option δ} : bnd8 (some (a, b, c, d, e, x, y, z)) f = f a b c d e x y z := rfl

set_option maxRecDepth 4000 in
theorem cs_38 (cp1_acts : Int32) (cp1_nextSlot : Int32) (cp1_now_today : Int32) (cp1_now_products : Int32) (cp1_now_itemCount : Int32) (cp1_now_items : Nat → Int32) (cp1_now_books : Nat → Int32) (cp1_now_terms : Nat → Int32) (cp1_now_shelves_lanes : Int32) (cp1_now_shelves_positions : Int32) (cp1_now_shelves_room : Int32) (cp1_now_shelves_gap : Int32) (cp1_now_shelves_places : Int32) (cp1_now_shelves_picked : Int64) (cp1_now_shelves_lot : Nat → Int32) (cp1_now_shelves_pieces : Nat → Int32) (cp1_now_shelves_mark : Nat → Int32) (cp1_now_shelves_byDistance : Nat → Int32) (cp1_now_lots_count : Int32) (cp1_now_lots_product : Nat → Int32) (cp1_now_lots_last : Nat → Int32) (cp1_now_lots_cost : Nat → Int32) (cp1_now_lots_state : Nat → Int32) (cp1_now_lots_byLast : Nat → Int32) (cp1_now_orders_count : Int32) (cp1_now_orders_gifts : Int32) (cp1_now_orders_customer : Nat → Int32) (cp1_now_orders_product : Nat → Int32) (cp1_now_orders_open : Nat → Int32) (cp1_now_orders_due : Nat → Int32) (cp1_now_orders_life : Nat → Int32) (cp1_now_orders_byDue : Nat → Int32) (cp1_now_orders_had : Nat → Int32) (cp1_now_orders_stamps : Nat → Int32) (cp1_hk : Nat) (cp1_st : Nat → StT) (cp1_plan_terms : Nat → Int32) (cp1_plan_low : Nat → Int32) (cp1_plan_high : Nat → Int32) (cp1_plan_bottom : Nat → Int64) (cp1_plan_cost : Nat → Int64) (cp1_plan_act : Nat → Int32) (cp1_picker_deepest : Int32) (cp1_picker_shallowest : Int32) (cp1_picker_widest : Int32) (cp1_picker_least : Nat → Int32) (cp1_picker_next : Nat → Int32) (cp1_rest : Nat → Int32) (cp1_packed : Nat → Int32) (cp2_raised : Int32) (cp2_undos : Int32) (cp2_eldest : Int32) (cp2_w : Nat → Int32) (cp2_kept : Nat → Int32) (cp2_copy : Nat → Int32) (cp2_near : Nat → Int32) (cp2_isDone : Nat → Int32) (cp2_lane : Nat → Int32) (cp2_position : Nat → Int32) (cp2_least : Nat → Int32) (cp2_boxesOf : Nat → Int32) (cp2_staying : Nat → Int64) (cp2_planned : Nat → Int64) (cp2_scale : Nat → Int64) (cp3 : Nat → Int64) (v1 v2 v3 v4 v5 : Int32) (hR : RC PL (cp1_now_today, cp1_now_products, cp1_now_itemCount, cp1_now_items, cp1_now_books, cp1_now_terms, cp1_now_shelves_lanes, cp1_now_shelves_positions, cp1_now_shelves_room, cp1_now_shelves_gap, cp1_now_shelves_places, cp1_now_shelves_picked, cp1_now_shelves_lot, cp1_now_shelves_pieces, cp1_now_shelves_mark, cp1_now_shelves_byDistance, cp1_now_lots_count, cp1_now_lots_product, cp1_now_lots_last, cp1_now_lots_cost, cp1_now_lots_state, cp1_now_lots_byLast, cp1_now_orders_count, cp1_now_orders_gifts, cp1_now_orders_customer, cp1_now_orders_product, cp1_now_orders_open, cp1_now_orders_due, cp1_now_orders_life, cp1_now_orders_byDue, cp1_now_orders_had, cp1_now_orders_stamps) cp2_w cp2_near cp1_acts cp1_nextSlot cp1_hk cp1_st cp2_undos cp2_eldest cp2_kept cp1_plan_terms cp1_plan_low cp1_plan_high cp1_plan_bottom cp1_plan_cost cp1_plan_act) : ∃ z', f_c38 v1 v2 v3 v4 v5 (cp1_acts, cp1_nextSlot, cp1_now_today, cp1_now_products, cp1_now_itemCount, cp1_now_items, cp1_now_books, cp1_now_terms, cp1_now_shelves_lanes, cp1_now_shelves_positions, cp1_now_shelves_room, cp1_now_shelves_gap, cp1_now_shelves_places, cp1_now_shelves_picked, cp1_now_shelves_lot, cp1_now_shelves_pieces, cp1_now_shelves_mark, cp1_now_shelves_byDistance, cp1_now_lots_count, cp1_now_lots_product, cp1_now_lots_last, cp1_now_lots_cost, cp1_now_lots_state, cp1_now_lots_byLast, cp1_now_orders_count, cp1_now_orders_gifts, cp1_now_orders_customer, cp1_now_orders_product, cp1_now_orders_open, cp1_now_orders_due, cp1_now_orders_life, cp1_now_orders_byDue, cp1_now_orders_had, cp1_now_orders_stamps, cp1_hk, cp1_st, cp1_plan_terms, cp1_plan_low, cp1_plan_high, cp1_plan_bottom, cp1_plan_cost, cp1_plan_act, cp1_picker_deepest, cp1_picker_shallowest, cp1_picker_widest, cp1_picker_least, cp1_picker_next, cp1_rest, cp1_packed, cp2_raised, cp2_undos, cp2_eldest, cp2_w, cp2_kept, cp2_copy, cp2_near, cp2_isDone, cp2_lane, cp2_position, cp2_least, cp2_boxesOf, cp2_staying, cp2_planned, cp2_scale, cp3) = some z' ∧ R PL z' := by
  have hS := hR.1
  rw [RS_mk] at hS
  obtain ⟨a1, a2, a3, a4, a5, a6, a7, a8, a9, a10, a11, a12, a13, a14, a15⟩ := hS
  obtain ⟨k, pt', lo', hi', bo', co', act', o', b, sg', pn', sc', h1, h2, h3, h4⟩ := p_lowBound (v1 := v1) (c := cp2_raised) (o := cp3) (sg := cp2_staying) (pn := cp2_planned) (sc := cp2_scale) a13 hR.2.2.2
  refine ⟨?w, ?h1, ?h2⟩
  case h1 =>
    rw [fc_38, h1, bnd8_s, h2, bnd5_s]
    simp only [bnd1, Option.bind_some, f_Y8_thrown]
    exact fin_ok2 h4
  case h2 => rw [R_mk]; exact ⟨hR.1, hR.2.1, hR.2.2.1, h3⟩
set_option maxRecDepth 4000 in
theorem cs_39 (cp1_acts : Int32) (cp1_nextSlot : Int32) (cp1_now_today : Int32) (cp1_now_products : Int32) (cp1_now_itemCount : Int32) (cp1_now_items : Nat → Int32) (cp1_now_books : Nat → Int32) (cp1_now_terms : Nat → Int32) (cp1_now_shelves_lanes : Int32) (cp1_now_shelves_positions : Int32) (cp1_now_shelves_room : Int32) (cp1_now_shelves_gap : Int32) (cp1_now_shelves_places : Int32) (cp1_now_shelves_picked : Int64) (cp1_now_shelves_lot : Nat → Int32) (cp1_now_shelves_pieces : Nat → Int32) (cp1_now_shelves_mark : Nat → Int32) (cp1_now_shelves_byDistance : Nat → Int32) (cp1_now_lots_count : Int32) (cp1_now_lots_product : Nat → Int32) (cp1_now_lots_last : Nat → Int32) (cp1_now_lots_cost : Nat → Int32) (cp1_now_lots_state : Nat → Int32) (cp1_now_lots_byLast : Nat → Int32) (cp1_now_orders_count : Int32) (cp1_now_orders_gifts : Int32) (cp1_now_orders_customer : Nat → Int32) (cp1_now_orders_product : Nat → Int32) (cp1_now_orders_open : Nat → Int32) (cp1_now_orders_due : Nat → Int32) (cp1_now_orders_life : Nat → Int32) (cp1_now_orders_byDue : Nat → Int32) (cp1_now_orders_had : Nat → Int32) (cp1_now_orders_stamps : Nat → Int32) (cp1_hk : Nat) (cp1_st : Nat → StT) (cp1_plan_terms : Nat → Int32) (cp1_plan_low : Nat → Int32) (cp1_plan_high : Nat → Int32) (cp1_plan_bottom : Nat → Int64) (cp1_plan_cost : Nat → Int64) (cp1_plan_act : Nat → Int32) (cp1_picker_deepest : Int32) (cp1_picker_shallowest : Int32) (cp1_picker_widest : Int32) (cp1_picker_least : Nat → Int32) (cp1_picker_next : Nat → Int32) (cp1_rest : Nat → Int32) (cp1_packed : Nat → Int32) (cp2_raised : Int32) (cp2_undos : Int32) (cp2_eldest : Int32) (cp2_w : Nat → Int32) (cp2_kept : Nat → Int32) (cp2_copy : Nat → Int32) (cp2_near : Nat → Int32) (cp2_isDone : Nat → Int32) (cp2_lane : Nat → Int32) (cp2_position : Nat → Int32) (cp2_least : Nat → Int32) (cp2_boxesOf : Nat → Int32) (cp2_staying : Nat → Int64) (cp2_planned : Nat → Int64) (cp2_scale : Nat → Int64) (cp3 : Nat → Int64) (v1 v2 v3 v4 v5 : Int32) (hR : RC PL (cp1_now_today, cp1_now_products, cp1_now_itemCount, cp1_now_items, cp1_now_books, cp1_now_terms, cp1_now_shelves_lanes, cp1_now_shelves_positions, cp1_now_shelves_room, cp1_now_shelves_gap, cp1_now_shelves_places, cp1_now_shelves_picked, cp1_now_shelves_lot, cp1_now_shelves_pieces, cp1_now_shelves_mark, cp1_now_shelves_byDistance, cp1_now_lots_count, cp1_now_lots_product, cp1_now_lots_last, cp1_now_lots_cost, cp1_now_lots_state, cp1_now_lots_byLast, cp1_now_orders_count, cp1_now_orders_gifts, cp1_now_orders_customer, cp1_now_orders_product, cp1_now_orders_open, cp1_now_orders_due, cp1_now_orders_life, cp1_now_orders_byDue, cp1_now_orders_had, cp1_now_orders_stamps) cp2_w cp2_near cp1_acts cp1_nextSlot cp1_hk cp1_st cp2_undos cp2_eldest cp2_kept cp1_plan_terms cp1_plan_low cp1_plan_high cp1_plan_bottom cp1_plan_cost cp1_plan_act) : ∃ z', f_c39 v1 v2 v3 v4 v5 (cp1_acts, cp1_nextSlot, cp1_now_today, cp1_now_products, cp1_now_itemCount, cp1_now_items, cp1_now_books, cp1_now_terms, cp1_now_shelves_lanes, cp1_now_shelves_positions, cp1_now_shelves_room, cp1_now_shelves_gap, cp1_now_shelves_places, cp1_now_shelves_picked, cp1_now_shelves_lot, cp1_now_shelves_pieces, cp1_now_shelves_mark, cp1_now_shelves_byDistance, cp1_now_lots_count, cp1_now_lots_product, cp1_now_lots_last, cp1_now_lots_cost, cp1_now_lots_state, cp1_now_lots_byLast, cp1_now_orders_count, cp1_now_orders_gifts, cp1_now_orders_customer, cp1_now_orders_product, cp1_now_orders_open, cp1_now_orders_due, cp1_now_orders_life, cp1_now_orders_byDue, cp1_now_orders_had, cp1_now_orders_stamps, cp1_hk, cp1_st, cp1_plan_terms, cp1_plan_low, cp1_plan_high, cp1_plan_bottom, cp1_plan_cost, cp1_plan_act, cp1_picker_deepest, cp1_picker_shallowest, cp1_picker_widest, cp1_picker_least, cp1_picker_next, cp1_rest, cp1_packed, cp2_raised, cp2_undos, cp2_eldest, cp2_w, cp2_kept, cp2_copy, cp2_near, cp2_isDone, cp2_lane, cp2_position, cp2_least, cp2_boxesOf, cp2_staying, cp2_planned, cp2_scale, cp3) = some z' ∧ R PL z' := by
  have hS := hR.1
  rw [RS_mk] at hS
  obtain ⟨a1, a2, a3, a4, a5, a6, a7, a8, a9, a10, a11, a12, a13, a14, a15⟩ := hS
  obtain ⟨k, pt', lo', hi', bo', co', act', o', b, sg', pn', sc', h1, h2, h3, h4⟩ := p_highBound (v1 := v1) (c := cp2_raised) (o := cp3) (sg := cp2_staying) (pn := cp2_planned) (sc := cp2_scale) a13 hR.2.2.2
  refine ⟨?w, ?h1, ?h2⟩
  case h1 =>
    rw [fc_39, h1, bnd8_s, h2, bnd5_s]
    simp only [bnd1, Option.bind_some, f_Y8_thrown]
    exact fin_ok2 h4
  case h2 => rw [R_mk]; exact ⟨hR.1, hR.2.1, hR.2.2.1, h3⟩
set_option maxRecDepth 4000 in
theorem cs_40 (cp1_acts : Int32) (cp1_nextSlot : Int32) (cp1_now_today : Int32) (cp1_now_products : Int32) (cp1_now_itemCount : Int32) (cp1_now_items : Nat → Int32) (cp1_now_books : Nat → Int32) (cp1_now_terms : Nat → Int32) (cp1_now_shelves_lanes : Int32) (cp1_now_shelves_positions : Int32) (cp1_now_shelves_room : Int32) (cp1_now_shelves_gap : Int32) (cp1_now_shelves_places : Int32) (cp1_now_shelves_picked : Int64) (cp1_now_shelves_lot : Nat → Int32) (cp1_now_shelves_pieces : Nat → Int32) (cp1_now_shelves_mark : Nat → Int32) (cp1_now_shelves_byDistance : Nat → Int32) (cp1_now_lots_count : Int32) (cp1_now_lots_product : Nat → Int32) (cp1_now_lots_last : Nat → Int32) (cp1_now_lots_cost : Nat → Int32) (cp1_now_lots_state : Nat → Int32) (cp1_now_lots_byLast : Nat → Int32) (cp1_now_orders_count : Int32) (cp1_now_orders_gifts : Int32) (cp1_now_orders_customer : Nat → Int32) (cp1_now_orders_product : Nat → Int32) (cp1_now_orders_open : Nat → Int32) (cp1_now_orders_due : Nat → Int32) (cp1_now_orders_life : Nat → Int32) (cp1_now_orders_byDue : Nat → Int32) (cp1_now_orders_had : Nat → Int32) (cp1_now_orders_stamps : Nat → Int32) (cp1_hk : Nat) (cp1_st : Nat → StT) (cp1_plan_terms : Nat → Int32) (cp1_plan_low : Nat → Int32) (cp1_plan_high : Nat → Int32) (cp1_plan_bottom : Nat → Int64) (cp1_plan_cost : Nat → Int64) (cp1_plan_act : Nat → Int32) (cp1_picker_deepest : Int32) (cp1_picker_shallowest : Int32) (cp1_picker_widest : Int32) (cp1_picker_least : Nat → Int32) (cp1_picker_next : Nat → Int32) (cp1_rest : Nat → Int32) (cp1_packed : Nat → Int32) (cp2_raised : Int32) (cp2_undos : Int32) (cp2_eldest : Int32) (cp2_w : Nat → Int32) (cp2_kept : Nat → Int32) (cp2_copy : Nat → Int32) (cp2_near : Nat → Int32) (cp2_isDone : Nat → Int32) (cp2_lane : Nat → Int32) (cp2_position : Nat → Int32) (cp2_least : Nat → Int32) (cp2_boxesOf : Nat → Int32) (cp2_staying : Nat → Int64) (cp2_planned : Nat → Int64) (cp2_scale : Nat → Int64) (cp3 : Nat → Int64) (v1 v2 v3 v4 v5 : Int32) (hR : RC PL (cp1_now_today, cp1_now_products, cp1_now_itemCount, cp1_now_items, cp1_now_books, cp1_now_terms, cp1_now_shelves_lanes, cp1_now_shelves_positions, cp1_now_shelves_room, cp1_now_shelves_gap, cp1_now_shelves_places, cp1_now_shelves_picked, cp1_now_shelves_lot, cp1_now_shelves_pieces, cp1_now_shelves_mark, cp1_now_shelves_byDistance, cp1_now_lots_count, cp1_now_lots_product, cp1_now_lots_last, cp1_now_lots_cost, cp1_now_lots_state, cp1_now_lots_byLast, cp1_now_orders_count, cp1_now_orders_gifts, cp1_now_orders_customer, cp1_now_orders_product, cp1_now_orders_open, cp1_now_orders_due, cp1_now_orders_life, cp1_now_orders_byDue, cp1_now_orders_had, cp1_now_orders_stamps) cp2_w cp2_near cp1_acts cp1_nextSlot cp1_hk cp1_st cp2_undos cp2_eldest cp2_kept cp1_plan_terms cp1_plan_low cp1_plan_high cp1_plan_bottom cp1_plan_cost cp1_plan_act) : ∃ z', f_c40 v1 v2 v3 v4 v5 (cp1_acts, cp1_nextSlot, cp1_now_today, cp1_now_products, cp1_now_itemCount, cp1_now_items, cp1_now_books, cp1_now_terms, cp1_now_shelves_lanes, cp1_now_shelves_positions, cp1_now_shelves_room, cp1_now_shelves_gap, cp1_now_shelves_places, cp1_now_shelves_picked, cp1_now_shelves_lot, cp1_now_shelves_pieces, cp1_now_shelves_mark, cp1_now_shelves_byDistance, cp1_now_lots_count, cp1_now_lots_product, cp1_now_lots_last, cp1_now_lots_cost, cp1_now_lots_state, cp1_now_lots_byLast, cp1_now_orders_count, cp1_now_orders_gifts, cp1_now_orders_customer, cp1_now_orders_product, cp1_now_orders_open, cp1_now_orders_due, cp1_now_orders_life, cp1_now_orders_byDue, cp1_now_orders_had, cp1_now_orders_stamps, cp1_hk, cp1_st, cp1_plan_terms, cp1_plan_low, cp1_plan_high, cp1_plan_bottom, cp1_plan_cost, cp1_plan_act, cp1_picker_deepest, cp1_picker_shallowest, cp1_picker_widest, cp1_picker_least, cp1_picker_next, cp1_rest, cp1_packed, cp2_raised, cp2_undos, cp2_eldest, cp2_w, cp2_kept, cp2_copy, cp2_near, cp2_isDone, cp2_lane, cp2_position, cp2_least, cp2_boxesOf, cp2_staying, cp2_planned, cp2_scale, cp3) = some z' ∧ R PL z' := by
  have hS := hR.1
  rw [RS_mk] at hS
  obtain ⟨a1, a2, a3, a4, a5, a6, a7, a8, a9, a10, a11, a12, a13, a14, a15⟩ := hS
  obtain ⟨k, pt', lo', hi', bo', co', act', o', b, sg', pn', sc', h1, h2, h3, h4⟩ := p_bestAct (v1 := v1) (v2 := v2) (c := cp2_raised) (o := cp3) (sg := cp2_staying) (pn := cp2_planned) (sc := cp2_scale) a13 hR.2.2.2
  refine ⟨?w, ?h1, ?h2⟩
  case h1 =>
    rw [fc_40, h1, bnd8_s, h2, bnd5_s]
    simp only [bnd1, Option.bind_some, f_Y8_thrown]
    exact fin_ok2 h4
  case h2 => rw [R_mk]; exact ⟨hR.1, hR.2.1, hR.2.2.1, h3⟩
set_option maxRecDepth 4000 in
theorem cs_41 (cp1_acts : Int32) (cp1_nextSlot : Int32) (cp1_now_today : Int32) (cp1_now_products : Int32) (cp1_now_itemCount : Int32) (cp1_now_items : Nat → Int32) (cp1_now_books : Nat → Int32) (cp1_now_terms : Nat → Int32) (cp1_now_shelves_lanes : Int32) (cp1_now_shelves_positions : Int32) (cp1_now_shelves_room : Int32) (cp1_now_shelves_gap : Int32) (cp1_now_shelves_places : Int32) (cp1_now_shelves_picked : Int64) (cp1_now_shelves_lot : Nat → Int32) (cp1_now_shelves_pieces : Nat → Int32) (cp1_now_shelves_mark : Nat → Int32) (cp1_now_shelves_byDistance : Nat → Int32) (cp1_now_lots_count : Int32) (cp1_now_lots_product : Nat → Int32) (cp1_now_lots_last : Nat → Int32) (cp1_now_lots_cost : Nat → Int32) (cp1_now_lots_state : Nat → Int32) (cp1_now_lots_byLast : Nat → Int32) (cp1_now_orders_count : Int32) (cp1_now_orders_gifts : Int32) (cp1_now_orders_customer : Nat → Int32) (cp1_now_orders_product : Nat → Int32) (cp1_now_orders_open : Nat → Int32) (cp1_now_orders_due : Nat → Int32) (cp1_now_orders_life : Nat → Int32) (cp1_now_orders_byDue : Nat → Int32) (cp1_now_orders_had : Nat → Int32) (cp1_now_orders_stamps : Nat → Int32) (cp1_hk : Nat) (cp1_st : Nat → StT) (cp1_plan_terms : Nat → Int32) (cp1_plan_low : Nat → Int32) (cp1_plan_high : Nat → Int32) (cp1_plan_bottom : Nat → Int64) (cp1_plan_cost : Nat → Int64) (cp1_plan_act : Nat → Int32) (cp1_picker_deepest : Int32) (cp1_picker_shallowest : Int32) (cp1_picker_widest : Int32) (cp1_picker_least : Nat → Int32) (cp1_picker_next : Nat → Int32) (cp1_rest : Nat → Int32) (cp1_packed : Nat → Int32) (cp2_raised : Int32) (cp2_undos : Int32) (cp2_eldest : Int32) (cp2_w : Nat → Int32) (cp2_kept : Nat → Int32) (cp2_copy : Nat → Int32) (cp2_near : Nat → Int32) (cp2_isDone : Nat → Int32) (cp2_lane : Nat → Int32) (cp2_position : Nat → Int32) (cp2_least : Nat → Int32) (cp2_boxesOf : Nat → Int32) (cp2_staying : Nat → Int64) (cp2_planned : Nat → Int64) (cp2_scale : Nat → Int64) (cp3 : Nat → Int64) (v1 v2 v3 v4 v5 : Int32) (hR : RC PL (cp1_now_today, cp1_now_products, cp1_now_itemCount, cp1_now_items, cp1_now_books, cp1_now_terms, cp1_now_shelves_lanes, cp1_now_shelves_positions, cp1_now_shelves_room, cp1_now_shelves_gap, cp1_now_shelves_places, cp1_now_shelves_picked, cp1_now_shelves_lot, cp1_now_shelves_pieces, cp1_now_shelves_mark, cp1_now_shelves_byDistance, cp1_now_lots_count, cp1_now_lots_product, cp1_now_lots_last, cp1_now_lots_cost, cp1_now_lots_state, cp1_now_lots_byLast, cp1_now_orders_count, cp1_now_orders_gifts, cp1_now_orders_customer, cp1_now_orders_product, cp1_now_orders_open, cp1_now_orders_due, cp1_now_orders_life, cp1_now_orders_byDue, cp1_now_orders_had, cp1_now_orders_stamps) cp2_w cp2_near cp1_acts cp1_nextSlot cp1_hk cp1_st cp2_undos cp2_eldest cp2_kept cp1_plan_terms cp1_plan_low cp1_plan_high cp1_plan_bottom cp1_plan_cost cp1_plan_act) : ∃ z', f_c41 v1 v2 v3 v4 v5 (cp1_acts, cp1_nextSlot, cp1_now_today, cp1_now_products, cp1_now_itemCount, cp1_now_items, cp1_now_books, cp1_now_terms, cp1_now_shelves_lanes, cp1_now_shelves_positions, cp1_now_shelves_room, cp1_now_shelves_gap, cp1_now_shelves_places, cp1_now_shelves_picked, cp1_now_shelves_lot, cp1_now_shelves_pieces, cp1_now_shelves_mark, cp1_now_shelves_byDistance, cp1_now_lots_count, cp1_now_lots_product, cp1_now_lots_last, cp1_now_lots_cost, cp1_now_lots_state, cp1_now_lots_byLast, cp1_now_orders_count, cp1_now_orders_gifts, cp1_now_orders_customer, cp1_now_orders_product, cp1_now_orders_open, cp1_now_orders_due, cp1_now_orders_life, cp1_now_orders_byDue, cp1_now_orders_had, cp1_now_orders_stamps, cp1_hk, cp1_st, cp1_plan_terms, cp1_plan_low, cp1_plan_high, cp1_plan_bottom, cp1_plan_cost, cp1_plan_act, cp1_picker_deepest, cp1_picker_shallowest, cp1_picker_widest, cp1_picker_least, cp1_picker_next, cp1_rest, cp1_packed, cp2_raised, cp2_undos, cp2_eldest, cp2_w, cp2_kept, cp2_copy, cp2_near, cp2_isDone, cp2_lane, cp2_position, cp2_least, cp2_boxesOf, cp2_staying, cp2_planned, cp2_scale, cp3) = some z' ∧ R PL z' := by
  have hS := hR.1
  rw [RS_mk] at hS
  obtain ⟨a1, a2, a3, a4, a5, a6, a7, a8, a9, a10, a11, a12, a13, a14, a15⟩ := hS
  by_cases e : v3 = 0
  · obtain ⟨k, pt', lo', hi', bo', co', act', o', b, sg', pn', sc', h1, h2, h3, h4⟩ := p_planCost (v1 := v1) (v2 := v2) (v3 := 0) (c := cp2_raised) (o := cp3) (sg := cp2_staying) (pn := cp2_planned) (sc := cp2_scale) a13 hR.2.2.2
    refine ⟨?w, ?h1, ?h2⟩
    case h1 =>
      rw [fc_41, if_pos e, h1, bnd8_s, if_pos e, h2, bnd5_s]
      simp only [bnd1, Option.bind_some, f_Y8_thrown]
      exact fin_ok2 h4
    case h2 => rw [R_mk]; exact ⟨hR.1, hR.2.1, hR.2.2.1, h3⟩
  · obtain ⟨k, pt', lo', hi', bo', co', act', o', b, sg', pn', sc', h1, h2, h3, h4⟩ := p_planCost (v1 := v1) (v2 := v2) (v3 := 1) (c := cp2_raised) (o := cp3) (sg := cp2_staying) (pn := cp2_planned) (sc := cp2_scale) a13 hR.2.2.2
    refine ⟨?w2, ?h3, ?h5⟩
    case h3 =>
      rw [fc_41, if_neg e, h1, bnd8_s, if_neg e, h2, bnd5_s]
      simp only [bnd1, Option.bind_some, f_Y8_thrown]
      exact fin_ok2 h4
    case h5 => rw [R_mk]; exact ⟨hR.1, hR.2.1, hR.2.2.1, h3⟩
