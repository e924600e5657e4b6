/-! ===== the start ===== -/
theorem bnd11_s {α1 α2 α3 α4 α5 α6 α7 α8 α9 α10 α11 δ : Type} {a : α1} {b : α2} {c : α3} {d : α4} {e : α5} {x : α6} {y : α7} {z : α8} {u : α9} {v : α10} {t : α11} {f : α1 → α2 → α3 → α4 → α5 → α6 → α7 → α8 → α9 → α10 → α11 → Option δ} : bnd11 (some (a, b, c, d, e, x, y, z, u, v, t)) f = f a b c d e x y z u v t := rfl
theorem st_loop {near w : Nat → Int32} : ∃ w', loop (fun z : Int32 × (Nat → Int32) => f_Y8_init_L118 near z.1 z.2) fu (0, w) = some w' ∧ ∀ i : Nat, w' i = if 2432 ≤ i ∧ i < 2437 then 1 else w i := by
  refine lp_one (f := fun z : Int32 × (Nat → Int32) => f_Y8_init_L118 near z.1 z.2) (fun z => ∃ k : Nat, z.1 = Int32.ofNat k ∧ k ≤ 5 ∧ ∀ i : Nat, z.2 i = if 2432 ≤ i ∧ i < 2432 + k then 1 else w i) _ (fun z => msr z.1 6) ?_ fu (0, w) ⟨0, rfl, by omega, fun i => by rw [if_neg (by omega)]⟩ (msr_fu (by dsimp only; decide) (by decide))
  rintro ⟨a, f⟩ ⟨k, h1, h2, h3⟩
  dsimp only at h1 h3
  subst h1
  dsimp only
  unfold f_Y8_init_L118
  by_cases e : k = 5
  · right
    subst e
    exact ⟨f, if_pos (Int32.le_refl _), h3⟩
  · left
    have mm : msr (Int32.ofNat k + 1) 6 < msr (Int32.ofNat k) 6 := msr_lt ((on_lt (k := k) (m := 6) (by omega) (by omega)).mpr (by omega))
    rw [if_neg (show ¬ (5 : Int32) ≤ Int32.ofNat k from fun z => absurd ((on_le (k := 5) (m := k) (by omega) (by omega)).mp z) (by omega)), show 2432 + Int32.ofNat k = Int32.ofNat (2432 + k) by rw [show (2432 : Int32) = Int32.ofNat 2432 from rfl, on_addI (by omega)], gd_2450 (on_k (by omega)).2.2 ((on_lt (k := 2432 + k) (m := 2450) (by omega) (by omega)).mpr (by omega)), (on_k (show 2432 + k < 100000 by omega)).1]
    rw [on_inc] at mm ⊢
    refine ⟨_, rfl, ⟨k + 1, rfl, by omega, fun i => ?_⟩, mm⟩
    dsimp only
    by_cases ei : i = 2432 + k
    · rw [ei, upd_eq, if_pos (by omega)]
    · rw [upd_of ei, h3]
      by_cases e2 : 2432 ≤ i ∧ i < 2432 + k
      · rw [if_pos e2, if_pos (by omega)]
      · rw [if_neg e2, if_neg (by omega)]
theorem lw_start : ∃ z0, lw_z0 = some z0 ∧ R PL z0 := by
  have p34 : (3 : Int32) * 4 = 12 := by decide
  obtain ⟨l', p', k', b', d1, d2, d3⟩ := bd_ok (v1 := 3) (v2 := 4) (v3 := 6) (v4 := 2) (y1 := 0) (y2 := 0) (y3 := 0) (y4 := 0) (y5 := 0) (y6 := 0) (plot := fun _ => 0) (ppc := fun _ => 0) (pmk := fun _ => 0) (pbd := fun _ => 0) (by decide) (by decide) (by decide) (by decide) (by decide) (by decide) (by decide) (by decide)
  obtain ⟨w', near', n1, n2, n3, n4⟩ := bg_ok (v1 := 3) (v2 := 4) (v3 := 6) (v4 := 2) (w := fun _ => 0) (near := fun _ => 0) (by decide) (by decide) (by decide)
  obtain ⟨c16, t1, t2⟩ := n_five (h := fun _ _ => 1) (G := fun z => f_X7_init_L80 3 4 6 2 (3 * 4) 0 l' p' k' b' z.1 z.2) (f0 := fun _ => 0) (fun f => rfl) (fun j f hj => by
    unfold f_X7_init_L80
    dsimp only
    have a1 := (on_k (show j < 100000 by omega)).2.2
    have a2 : Int32.ofNat j < 5 := (on_lt (k := j) (m := 5) (by omega) (by omega)).mpr hj
    rw [if_neg (Int32.not_le.mpr a2), gd_10 a1 ((on_lt (k := j) (m := 10) (by omega) (by omega)).mpr (by omega)), on_inc, (on_k (show j < 100000 by omega)).1])
  obtain ⟨w3, s1, s2⟩ := st_loop (near := near') (w := w')
  generalize htr : upd (upd (upd (upd (upd c16 (5 : Int32).toNatClampNeg 10) (6 : Int32).toNatClampNeg 2) (7 : Int32).toNatClampNeg 1) (8 : Int32).toNatClampNeg 9) (9 : Int32).toNatClampNeg 10 = trm
  generalize hw4 : upd (upd (upd (upd (upd w3 (2437 : Int32).toNatClampNeg 10) (2438 : Int32).toNatClampNeg 2) (2439 : Int32).toNatClampNeg 1) (2440 : Int32).toNatClampNeg 9) (2441 : Int32).toNatClampNeg 10 = w4
  have h7 : f_X7_init = some (trm, 3, 4, 6, 2, 3 * 4, 0, l', p', k', b') := by
    unfold f_X7_init
    rw [d1, bnd10_s, t1, bnd1_s, gd_10 (by decide) (by decide), gd_10 (by decide) (by decide), gd_10 (by decide) (by decide), gd_10 (by decide) (by decide), gd_10 (by decide) (by decide), htr]
  have h8 : f_Y8_init = some (w4, near') := by
    unfold f_Y8_init
    rw [n1, bnd2_s, s1, bnd1_s]
    unfold f_Y8_costs
    rw [gd_2450 (by decide) (by decide), gd_2450 (by decide) (by decide), gd_2450 (by decide) (by decide), gd_2450 (by decide) (by decide), gd_2450 (by decide) (by decide), hw4, bnd1_s]
  have u5 : (2437 : Int32).toNatClampNeg = 2437 := rfl
  have u6 : (2438 : Int32).toNatClampNeg = 2438 := rfl
  have u7 : (2439 : Int32).toNatClampNeg = 2439 := rfl
  have u8 : (2440 : Int32).toNatClampNeg = 2440 := rfl
  have u9 : (2441 : Int32).toNatClampNeg = 2441 := rfl
  rw [u5, u6, u7, u8, u9] at hw4
  have w4low : ∀ i : Nat, i < 2432 → w4 i = w' i := fun i hi => by
    rw [← hw4, upd_of (by omega), upd_of (by omega), upd_of (by omega), upd_of (by omega), upd_of (by omega), s2, if_neg (by omega)]
  have w4one : ∀ i : Nat, i < 5 → w4 (2432 + i) = 1 := fun i hi => by
    rw [← hw4, upd_of (by omega), upd_of (by omega), upd_of (by omega), upd_of (by omega), upd_of (by omega), s2, if_pos (by omega)]
  have v5 : w4 2437 = 10 := by rw [← hw4, upd_of (by decide), upd_of (by decide), upd_of (by decide), upd_of (by decide), upd_eq]
  have v6 : w4 2438 = 2 := by rw [← hw4, upd_of (by decide), upd_of (by decide), upd_of (by decide), upd_eq]
  have v7 : w4 2439 = 1 := by rw [← hw4, upd_of (by decide), upd_of (by decide), upd_eq]
  have v8 : w4 2440 = 9 := by rw [← hw4, upd_of (by decide), upd_eq]
  have v9 : w4 2441 = 10 := by rw [← hw4, upd_eq]
  have q5 : (5 : Int32).toNatClampNeg = 5 := rfl
  have q6 : (6 : Int32).toNatClampNeg = 6 := rfl
  have q7 : (7 : Int32).toNatClampNeg = 7 := rfl
  have q8 : (8 : Int32).toNatClampNeg = 8 := rfl
  have q9 : (9 : Int32).toNatClampNeg = 9 := rfl
  rw [q5, q6, q7, q8, q9] at htr
  have r1 : ∀ i : Nat, i < 5 → trm i = 1 := fun i hi => by
    rw [← htr, upd_of (by omega), upd_of (by omega), upd_of (by omega), upd_of (by omega), upd_of (by omega), t2 i hi]
  have r5 : trm 5 = 10 := by rw [← htr, upd_of (by decide), upd_of (by decide), upd_of (by decide), upd_of (by decide), upd_eq]
  have r6 : trm 6 = 2 := by rw [← htr, upd_of (by decide), upd_of (by decide), upd_of (by decide), upd_eq]
  have r7 : trm 7 = 1 := by rw [← htr, upd_of (by decide), upd_of (by decide), upd_eq]
  have r8 : trm 8 = 9 := by rw [← htr, upd_of (by decide), upd_eq]
  have r9 : trm 9 = 10 := by rw [← htr, upd_eq]
  have EW4 : EW 3 4 6 2 w4 := fun i i0 i1 => by
    have := n2 i i0 i1
    have e : ix w4 i = ix w' i := w4low _ (by
      have := tn_lt i0 i1
      rw [show (2423 : Int32).toNatClampNeg = 2423 from rfl] at this
      omega)
    rw [e]; exact this
  have QI4 : QI 0 (fun _ => 0) w4 := by
    refine ⟨?_, by decide, by decide, fun n n0 n1 => ?_⟩
    · rw [w4low 2423 (by omega)]
      exact n3 2423 (by decide) (by decide)
    · have a := i_le.mp n0
      have b := i_lt.mp n1
      omega
  have QT4 : QT trm w4 := by
    refine ⟨fun n n0 n1 => ?_, ?_, by rw [v5, r5], by rw [r5]; decide, by rw [r5]; decide, by rw [v6, r6], by rw [r6]; decide, by rw [r6]; decide, by rw [v7, r7], by rw [r7]; decide, by rw [r7]; decide, by rw [v8, r8], by rw [r6, r8]; decide, by rw [r8]; decide, by rw [v9, r9], by rw [r9]; decide, by rw [r9]; decide⟩
    · have t5 := tn_lt n0 n1
      rw [show (5 : Int32).toNatClampNeg = 5 from rfl] at t5
      have e1 : ix trm n = 1 := r1 _ t5
      have e2 : ix w4 (2432 + n) = 1 := by
        show w4 (2432 + n).toNatClampNeg = 1
        rw [← of_tn n0, show 2432 + Int32.ofNat n.toNatClampNeg = Int32.ofNat (2432 + n.toNatClampNeg) by rw [show (2432 : Int32) = Int32.ofNat 2432 from rfl, on_addI (by omega)], (on_k (by omega)).1]
        exact w4one _ t5
      rw [e1, e2]
      decide
    · rw [r1 0 (by omega), r1 1 (by omega), r1 2 (by omega), r1 3 (by omega), r1 4 (by omega)]
      decide
  refine ⟨?z, ?e, ?r⟩
  case e =>
    unfold lw_z0
    rw [h7, bnd11_s, h8, bnd2_s]
  case r =>
    rw [R_mk]
    refine ⟨RS_empty (by decide) (by decide) (by decide) (by decide) (by decide) (by decide) (by decide) (by decide) (by decide) (by decide) EW4 (fun _ _ _ => rfl) d2 d3 QI4 QT4, QR_of d3 n4, ⟨rfl, by decide, by decide, by decide, by decide, by decide, by decide, Nat.le_refl _, fun i i0 i1 => ?_⟩, fun y _ _ => rfl, Or.inl fun i _ => rfl⟩
    have a := i_le.mp i0
    have b := i_lt.mp i1
    omega
