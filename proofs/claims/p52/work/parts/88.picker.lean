/-! ===== the picker's forms, in the class ===== -/
def AR (f : Nat → Int32) (s : W5) : Prop := (f 0).toInt = s.1 ∧ (f 1).toInt = s.2.1 ∧ (f 2).toInt = s.2.2.1 ∧ (f 3).toInt = s.2.2.2.1 ∧ (f 4).toInt = s.2.2.2.2
def BDW (B : Int) (s : W5) : Prop := (0 ≤ s.1 ∧ s.1 ≤ B) ∧ (0 ≤ s.2.1 ∧ s.2.1 ≤ B) ∧ (0 ≤ s.2.2.1 ∧ s.2.2.1 ≤ B) ∧ (0 ≤ s.2.2.2.1 ∧ s.2.2.2.1 ≤ B) ∧ (0 ≤ s.2.2.2.2 ∧ s.2.2.2.2 ≤ B)
theorem i_min2 {a b : Int32} : (if a < b then a else b).toInt = min a.toInt b.toInt := by
  by_cases h : a < b
  · rw [if_pos h]; rw [i_lt] at h; omega
  · rw [if_neg h]; rw [i_lt] at h; omega
theorem gd5_0 {α : Type} {t : Option α} : gd 0 5 t = t := gd_5 (by decide) (by decide)
theorem gd5_1 {α : Type} {t : Option α} : gd 1 5 t = t := gd_5 (by decide) (by decide)
theorem gd5_2 {α : Type} {t : Option α} : gd 2 5 t = t := gd_5 (by decide) (by decide)
theorem gd5_3 {α : Type} {t : Option α} : gd 3 5 t = t := gd_5 (by decide) (by decide)
theorem gd5_4 {α : Type} {t : Option α} : gd 4 5 t = t := gd_5 (by decide) (by decide)
theorem tn_1 : (1 : Int32).toNatClampNeg = 1 := rfl
theorem tn_2 : (2 : Int32).toNatClampNeg = 2 := rfl
theorem tn_3 : (3 : Int32).toNatClampNeg = 3 := rfl
theorem tn_4 : (4 : Int32).toNatClampNeg = 4 := rfl
theorem n_five {h : Nat → Int32 → Int32} {G : Int32 × (Nat → Int32) → Option ((Int32 × (Nat → Int32)) ⊕ (Nat → Int32))} {f0 : Nat → Int32} (he : ∀ f, G (5, f) = some (.inr f)) (hs : ∀ (k : Nat) f, k < 5 → G (Int32.ofNat k, f) = some (.inl (Int32.ofNat (k + 1), upd f k (h k (f k))))) :
    ∃ f', loop G fu (0, f0) = some f' ∧ ∀ k : Nat, k < 5 → f' k = h k (f0 k) := by
  refine lp_one (f := G) (fun z => ∃ n : Nat, n ≤ 5 ∧ z.1 = Int32.ofNat n ∧ (∀ k, k < n → z.2 k = h k (f0 k)) ∧ ∀ k, n ≤ k → z.2 k = f0 k) (fun f' => ∀ k : Nat, k < 5 → f' k = h k (f0 k)) (fun z => msr z.1 5) ?_ fu (0, f0) ⟨0, by omega, rfl, fun k hk => by omega, fun _ _ => rfl⟩ (msr_fu (by dsimp only; decide) (by decide))
  rintro ⟨a, f⟩ ⟨n, n1, n2, n3, n4⟩
  dsimp only at n2 n3 n4
  subst n2
  by_cases e : n = 5
  · right
    subst e
    exact ⟨f, he f, n3⟩
  · left
    refine ⟨_, hs n f (by omega), ⟨n + 1, by omega, rfl, fun k hk => ?_, fun k hk => ?_⟩, ?_⟩
    · dsimp only
      by_cases e2 : k = n
      · subst e2; rw [upd_eq, n4 k (Nat.le_refl _)]
      · rw [upd_of e2]; exact n3 k (by omega)
    · dsimp only
      rw [upd_of (by omega)]; exact n4 k (by omega)
    · dsimp only
      rw [← on_inc]
      exact msr_lt ((on_lt (k := n) (m := 5) (by omega) (by omega)).mpr (by omega))
theorem n_takeNext {least next : Nat → Int32} : ∃ l', f_X3_takeNext least next = some l' ∧ ∀ k : Nat, k < 5 → l' k = next k := by
  obtain ⟨l', a, b⟩ := n_five (h := fun k _ => next k) (G := fun z => f_X3_takeNext_L2 next z.1 z.2) (f0 := least) (fun f => rfl) (fun k f hk => by
    unfold f_X3_takeNext_L2
    dsimp only
    have g1 := (on_k (show k < 100000 by omega)).2.2
    have g2 : Int32.ofNat k < 5 := (on_lt (k := k) (m := 5) (by omega) (by omega)).mpr hk
    rw [if_neg (Int32.not_le.mpr g2), gd_5 g1 g2, gd_5 g1 g2, on_inc, (on_k (show k < 100000 by omega)).1])
  refine ⟨l', ?_, b⟩
  unfold f_X3_takeNext
  rw [a, bnd1_s]
theorem n_skip {least next : Nat → Int32} : ∃ n', f_X3_skipLane least next = some n' ∧ ∀ k : Nat, k < 5 → n' k = if least k < next k then least k else next k := by
  obtain ⟨l', a, b⟩ := n_five (h := fun k v => if least k < v then least k else v) (G := fun z => f_X3_skipLane_L2 least z.1 z.2) (f0 := next) (fun f => rfl) (fun k f hk => by
    unfold f_X3_skipLane_L2
    dsimp only
    have g1 := (on_k (show k < 100000 by omega)).2.2
    have g2 : Int32.ofNat k < 5 := (on_lt (k := k) (m := 5) (by omega) (by omega)).mpr hk
    rw [if_neg (Int32.not_le.mpr g2), gd_5 g1 g2, gd_5 g1 g2, gd_5 g1 g2, on_inc, (on_k (show k < 100000 by omega)).1])
  refine ⟨l', ?_, b⟩
  unfold f_X3_skipLane
  rw [a, bnd1_s]
theorem n_cross {g : Int32} {least next : Nat → Int32} {s : W5} (g0 : 0 ≤ g.toInt) (g5 : g.toInt ≤ 5) (hA : AR least s) (hB : BDW 2000000 s) : ∃ l' n', f_X3_crossOver g least next = some (l', n') ∧ AR l' (crs g.toInt s) := by
  obtain ⟨a0, a1, a2, a3, a4⟩ := hA
  obtain ⟨b0, b1, b2, b3, b4⟩ := hB
  unfold f_X3_crossOver
  simp only [gd5_0, gd5_1, gd5_2, gd5_3, gd5_4, tn_0, tn_1, tn_2, tn_3, tn_4]
  have t2 : (2 * g).toInt = 2 * g.toInt := fb_mulI (by rw [show (2 : Int32).toInt = 2 from rfl]; omega) (by rw [show (2 : Int32).toInt = 2 from rfl]; omega)
  have t4 : (4 * g).toInt = 4 * g.toInt := fb_mulI (by rw [show (4 : Int32).toInt = 4 from rfl]; omega) (by rw [show (4 : Int32).toInt = 4 from rfl]; omega)
  have e0 : (least 0 + 2 * g).toInt = s.1 + 2 * g.toInt := by rw [i_add (by rw [t2]; omega) (by rw [t2]; omega), t2, a0]
  have e1 : ((if least 3 < least 1 then least 3 else least 1) + 2 * g).toInt = min s.2.1 s.2.2.2.1 + 2 * g.toInt := by rw [i_add (by rw [t2, i_min2]; omega) (by rw [t2, i_min2]; omega), t2, i_min2, a1, a3]; omega
  have e2 : ((if least 3 < least 2 then least 3 else least 2) + 2 * g).toInt = min s.2.2.1 s.2.2.2.1 + 2 * g.toInt := by rw [i_add (by rw [t2, i_min2]; omega) (by rw [t2, i_min2]; omega), t2, i_min2, a2, a3]; omega
  have e3 : (least 3 + 4 * g).toInt = s.2.2.2.1 + 4 * g.toInt := by rw [i_add (by rw [t4]; omega) (by rw [t4]; omega), t4, a3]
  have e4 : (least 4 + 4 * g).toInt = s.2.2.2.2 + 4 * g.toInt := by rw [i_add (by rw [t4]; omega) (by rw [t4]; omega), t4, a4]
  generalize least 0 + 2 * g = x0 at *
  generalize (if least 3 < least 1 then least 3 else least 1) + 2 * g = x1 at *
  generalize (if least 3 < least 2 then least 3 else least 2) + 2 * g = x2 at *
  generalize least 3 + 4 * g = x3 at *
  generalize least 4 + 4 * g = x4 at *
  obtain ⟨l', t1, u⟩ := n_takeNext (least := least) (next := upd (upd (upd (upd (upd next 0 x0) 1 x1) 2 x2) 3 x3) 4 x4)
  rw [t1, bnd1_s]
  refine ⟨l', _, rfl, ?_⟩
  refine ⟨?_, ?_, ?_, ?_, ?_⟩
  · rw [u 0 (by omega)]; exact e0
  · rw [u 1 (by omega)]; exact e1
  · rw [u 2 (by omega)]; exact e2
  · rw [u 3 (by omega)]; exact e3
  · rw [u 4 (by omega)]; exact e4
theorem n_turn {v d sh wd O J : Int32} {least nx : Nat → Int32} {s : W5} (v0 : 1 ≤ v.toInt) (v9 : v.toInt ≤ 9) (d0 : 0 ≤ d.toInt ∧ d.toInt ≤ 9) (s0 : 0 ≤ sh.toInt ∧ sh.toInt ≤ 9) (w0 : 0 ≤ wd.toInt ∧ wd.toInt ≤ 9) (hA : AR least s) (hB : BDW 2000000 s) (x0 : nx 0 = O) (x3 : nx 3 = J) :
    ∃ fx X Y Z, f_X3_turnInLane v d sh wd least nx = some fx ∧ X = min (2 * d.toInt) (min (2 * (v.toInt - sh.toInt)) (2 * (v.toInt - wd.toInt))) ∧ Y = min (2 * (v.toInt - sh.toInt)) (2 * (v.toInt - wd.toInt)) ∧ Z = min (2 * d.toInt) (2 * (v.toInt - wd.toInt)) ∧ AR fx (min O.toInt (s.1 + X), s.2.1 + 2 * d.toInt, s.2.2.1 + 2 * (v.toInt - sh.toInt), min J.toInt (s.2.2.2.1 + X), min (s.2.2.2.2 + X) (min (s.2.1 + Y) (s.2.2.1 + Z))) := by
  obtain ⟨a0, a1, a2, a3, a4⟩ := hA
  obtain ⟨b0, b1, b2, b3, b4⟩ := hB
  have z2 : (2 : Int32).toInt = 2 := rfl
  unfold f_X3_turnInLane
  simp only [gd5_0, gd5_1, gd5_2, gd5_3, gd5_4, tn_0, tn_1, tn_2, tn_3, tn_4]
  have m1 : (v - wd).toInt = v.toInt - wd.toInt := i_sub (by omega) (by omega)
  have m2 : (v - sh).toInt = v.toInt - sh.toInt := i_sub (by omega) (by omega)
  have B1 : (2 * (v - wd)).toInt = 2 * (v.toInt - wd.toInt) := by rw [fb_mulI (by rw [z2, m1]; omega) (by rw [z2, m1]; omega), z2, m1]
  have R1 : (2 * (v - sh)).toInt = 2 * (v.toInt - sh.toInt) := by rw [fb_mulI (by rw [z2, m2]; omega) (by rw [z2, m2]; omega), z2, m2]
  have F1 : (2 * d).toInt = 2 * d.toInt := fb_mulI (by rw [z2]; omega) (by rw [z2]; omega)
  generalize 2 * (v - wd) = FB at *
  generalize 2 * (v - sh) = FR at *
  generalize 2 * d = FF at *
  have Y1 : (if FB < FR then FB else FR).toInt = min (2 * (v.toInt - sh.toInt)) (2 * (v.toInt - wd.toInt)) := by rw [i_min2, B1, R1, Int.min_comm]
  have Z1 : (if FB < FF then FB else FF).toInt = min (2 * d.toInt) (2 * (v.toInt - wd.toInt)) := by rw [i_min2, B1, F1, Int.min_comm]
  generalize (if FB < FR then FB else FR) = Y at *
  generalize (if FB < FF then FB else FF) = Z at *
  have X1 : (if Y < FF then Y else FF).toInt = min (2 * d.toInt) (min (2 * (v.toInt - sh.toInt)) (2 * (v.toInt - wd.toInt))) := by rw [i_min2, Y1, F1, Int.min_comm]
  generalize (if Y < FF then Y else FF) = X at *
  have rX : -100 ≤ X.toInt ∧ X.toInt ≤ 100 := by omega
  have rY : -100 ≤ Y.toInt ∧ Y.toInt ≤ 100 := by omega
  have rZ : -100 ≤ Z.toInt ∧ Z.toInt ≤ 100 := by omega
  have c0 : (least 0 + X).toInt = s.1 + X.toInt := by rw [i_add (by omega) (by omega), a0]
  have c3 : (least 3 + X).toInt = s.2.2.2.1 + X.toInt := by rw [i_add (by omega) (by omega), a3]
  have c4 : (least 4 + X).toInt = s.2.2.2.2 + X.toInt := by rw [i_add (by omega) (by omega), a4]
  have c1 : (least 1 + FF).toInt = s.2.1 + 2 * d.toInt := by rw [i_add (by omega) (by omega), a1, F1]
  have c2 : (least 2 + FR).toInt = s.2.2.1 + 2 * (v.toInt - sh.toInt) := by rw [i_add (by omega) (by omega), a2, R1]
  have c5 : (least 1 + Y).toInt = s.2.1 + Y.toInt := by rw [i_add (by omega) (by omega), a1]
  have c6 : (least 2 + Z).toInt = s.2.2.1 + Z.toInt := by rw [i_add (by omega) (by omega), a2]
  have y3 : ∀ q : Int32, upd nx 0 q 3 = J := fun q => x3
  rw [y3, x0]
  refine ⟨_, X.toInt, Y.toInt, Z.toInt, rfl, X1, Y1, Z1, ?_, ?_, ?_, ?_, ?_⟩
  · show (if least 0 + X < O then least 0 + X else O).toInt = min O.toInt (s.1 + X.toInt)
    rw [i_min2, c0, Int.min_comm]
  · show (least 1 + FF).toInt = s.2.1 + 2 * d.toInt
    exact c1
  · show (least 2 + FR).toInt = s.2.2.1 + 2 * (v.toInt - sh.toInt)
    exact c2
  · show (if least 3 + X < J then least 3 + X else J).toInt = min J.toInt (s.2.2.2.1 + X.toInt)
    rw [i_min2, c3, Int.min_comm]
  · show (if (if least 2 + Z < least 1 + Y then least 2 + Z else least 1 + Y) < least 4 + X then (if least 2 + Z < least 1 + Y then least 2 + Z else least 1 + Y) else least 4 + X).toInt = min (s.2.2.2.2 + X.toInt) (min (s.2.1 + Y.toInt) (s.2.2.1 + Z.toInt))
    rw [i_min2, i_min2, c4, c5, c6, Int.min_comm, Int.min_comm (s.2.2.1 + Z.toInt)]
theorem n_walk {v d sh wd : Int32} {least next : Nat → Int32} {s : W5} (v0 : 1 ≤ v.toInt) (v9 : v.toInt ≤ 9) (d0 : 0 ≤ d.toInt ∧ d.toInt ≤ 9) (s0 : 0 ≤ sh.toInt ∧ sh.toInt ≤ 9) (w0 : 0 ≤ wd.toInt ∧ wd.toInt ≤ 9) (hA : AR least s) (hB : BDW 2000000 s) :
    ∃ l' n', f_X3_walkLane v d sh wd least next = some (l', n') ∧ AR l' (wlk v.toInt d.toInt sh.toInt wd.toInt s) := by
  obtain ⟨a0, a1, a2, a3, a4⟩ := hA
  obtain ⟨b0, b1, b2, b3, b4⟩ := hB
  unfold f_X3_walkLane f_X3_walkLane_J123
  simp only [gd5_0, gd5_1, gd5_2, gd5_3, gd5_4, tn_0, tn_1, tn_2, tn_3, tn_4]
  have z2 : (2 : Int32).toInt = 2 := rfl
  have t2 : (2 * v).toInt = 2 * v.toInt := fb_mulI (by rw [z2]; omega) (by rw [z2]; omega)
  have hE : (if (if least 4 < least 3 then least 4 else least 3) < (if least 2 < least 1 then least 2 else least 1) then (if least 4 < least 3 then least 4 else least 3) else (if least 2 < least 1 then least 2 else least 1)).toInt = evn s := by
    rw [i_min2, i_min2, i_min2, a1, a2, a3, a4]; unfold evn; omega
  have rE : 0 ≤ evn s ∧ evn s ≤ 2000000 := by unfold evn; omega
  generalize (if (if least 4 < least 3 then least 4 else least 3) < (if least 2 < least 1 then least 2 else least 1) then (if least 4 < least 3 then least 4 else least 3) else (if least 2 < least 1 then least 2 else least 1)) = E at *
  have f1 : (E + v).toInt = evn s + v.toInt := by rw [i_add (by omega) (by omega), hE]
  have f2 : (E + 2 * v).toInt = evn s + 2 * v.toInt := by rw [i_add (by omega) (by omega), hE, t2]
  have f3 : (least 0 + 2 * v).toInt = s.1 + 2 * v.toInt := by rw [i_add (by omega) (by omega), a0, t2]
  have f4 : (least 0 + v).toInt = s.1 + v.toInt := by rw [i_add (by omega) (by omega), a0]
  have o0 : (if least 0 + 2 * v < E + v then least 0 + 2 * v else E + v).toInt = min (evn s + v.toInt) (s.1 + 2 * v.toInt) := by rw [i_min2, f1, f3]; omega
  have j0 : (if least 0 + v < E + 2 * v then least 0 + v else E + 2 * v).toInt = min (evn s + 2 * v.toInt) (s.1 + v.toInt) := by rw [i_min2, f2, f4]; omega
  generalize (if least 0 + 2 * v < E + v then least 0 + 2 * v else E + v) = O at *
  generalize (if least 0 + v < E + 2 * v then least 0 + v else E + 2 * v) = J at *
  have zF : (1000000 : Int32).toInt = 1000000 := by decide
  generalize (1000000 : Int32) = FAR at *
  by_cases hd : d = 0
  · rw [if_pos hd]
    obtain ⟨n', t1, u⟩ := n_skip (least := least) (next := upd (upd (upd (upd (upd next 0 O) 3 J) 1 FAR) 2 FAR) 4 FAR)
    obtain ⟨l', t3, u'⟩ := n_takeNext (least := least) (next := n')
    rw [t1, bnd1_s, t3, bnd1_s]
    refine ⟨l', n', rfl, ?_⟩
    have hd' : d.toInt = 0 := by rw [hd]; rfl
    unfold wlk
    rw [if_pos hd']
    have n0 : n' 0 = if least 0 < O then least 0 else O := u 0 (by omega)
    have n1 : n' 1 = if least 1 < FAR then least 1 else FAR := u 1 (by omega)
    have n2 : n' 2 = if least 2 < FAR then least 2 else FAR := u 2 (by omega)
    have n3 : n' 3 = if least 3 < J then least 3 else J := u 3 (by omega)
    have n4 : n' 4 = if least 4 < FAR then least 4 else FAR := u 4 (by omega)
    refine ⟨?_, ?_, ?_, ?_, ?_⟩ <;> dsimp only
    · rw [u' 0 (by omega), n0, i_min2, a0, o0]; omega
    · rw [u' 1 (by omega), n1, i_min2, a1, zF]; omega
    · rw [u' 2 (by omega), n2, i_min2, a2, zF]; omega
    · rw [u' 3 (by omega), n3, i_min2, a3, j0]; omega
    · rw [u' 4 (by omega), n4, i_min2, a4, zF]; omega
  · rw [if_neg hd]
    have hd' : ¬ d.toInt = 0 := fun z => hd (by rw [i_eq, z]; rfl)
    generalize hnx : upd (upd (upd (upd (upd next 0 O) 3 J) 1 FAR) 2 FAR) 4 FAR = nx
    obtain ⟨fx, X, Y, Z, t1, t2, t3, t4, t5⟩ := n_turn (O := O) (J := J) (nx := nx) v0 v9 d0 s0 w0 ⟨a0, a1, a2, a3, a4⟩ ⟨b0, b1, b2, b3, b4⟩ (by rw [← hnx]; rfl) (by rw [← hnx]; rfl)
    rw [t1, bnd1_s]
    obtain ⟨l', t6, u'⟩ := n_takeNext (least := least) (next := fx)
    rw [t6, bnd1_s]
    refine ⟨l', fx, rfl, ?_⟩
    unfold wlk
    rw [if_neg hd', ← t2, ← t3, ← t4]
    obtain ⟨q0, q1, q2, q3, q4⟩ := t5
    rw [o0] at q0
    rw [j0] at q3
    exact ⟨by rw [u' 0 (by omega)]; exact q0, by rw [u' 1 (by omega)]; exact q1, by rw [u' 2 (by omega)]; exact q2, by rw [u' 3 (by omega)]; exact q3, by rw [u' 4 (by omega)]; exact q4⟩
theorem BDW_cross {g B : Int} {s : W5} (g0 : 0 ≤ g) (g5 : g ≤ 5) (h : BDW B s) : BDW (B + 20) (crs g s) := by
  obtain ⟨b0, b1, b2, b3, b4⟩ := h
  unfold BDW crs
  dsimp only
  refine ⟨?_, ?_, ?_, ?_, ?_⟩ <;> omega
theorem BDW_walk {L d sh wd B : Int} {s : W5} (l0 : 0 ≤ L ∧ L ≤ 9) (d0 : 0 ≤ d ∧ d ≤ 9) (s0 : 0 ≤ sh ∧ sh ≤ L) (w0 : 0 ≤ wd ∧ wd ≤ L) (hB : 1000000 ≤ B) (h : BDW B s) : BDW (B + 20) (wlk L d sh wd s) := by
  obtain ⟨b0, b1, b2, b3, b4⟩ := h
  have rE : 0 ≤ evn s ∧ evn s ≤ B := by unfold evn; omega
  unfold BDW wlk
  by_cases hd : d = 0
  · rw [if_pos hd]
    dsimp only
    refine ⟨?_, ?_, ?_, ?_, ?_⟩ <;> omega
  · rw [if_neg hd]
    dsimp only
    refine ⟨?_, ?_, ?_, ?_, ?_⟩ <;> omega
/-! ===== what the picker sees of a lane ===== -/
abbrev PB (v : Int64) (k : Nat) : Prop := nv v / 2 ^ k % 2 = 1
theorem sh_one : ∀ k, k < 48 → nv ((1 : Int64) <<< ((Int32.ofNat k).toInt64 &&& 63)) = 2 ^ k := by decide
theorem pk_bit {v : Int64} {k : Nat} (hk : k < 48) : lg_cmp (v &&& ((1 : Int64) <<< ((Int32.ofNat k).toInt64 &&& 63))) 0 = 0 ↔ ¬ PB v k := by
  rw [lg_lt.2.2, show (0 : Int64).toInt = 0 from rfl]
  have e : nv (v &&& ((1 : Int64) <<< ((Int32.ofNat k).toInt64 &&& 63))) = nv v &&& 2 ^ k := by rw [nv_and, sh_one k hk]
  generalize v &&& ((1 : Int64) <<< ((Int32.ofNat k).toInt64 &&& 63)) = x at e
  have zx : x.toInt = 0 ↔ nv x = 0 := by
    constructor
    · intro h
      have : x = 0 := Int64.toInt_inj.mp (by rw [h]; rfl)
      rw [this]; rfl
    · intro h
      have : x.toBitVec = 0#64 := BitVec.eq_of_toNat_eq (by rw [show x.toBitVec.toNat = nv x from rfl, h]; rfl)
      have : x = 0 := Int64.toBitVec_inj.mp this
      rw [this]; rfl
  rw [zx, e]
  have tb : (nv v).testBit k = decide (nv v / 2 ^ k % 2 = 1) := Nat.testBit_eq_decide_div_mod_eq
  unfold PB
  constructor
  · intro z h
    have := congrArg (fun y => y.testBit k) z
    rw [Nat.testBit_and, p2_bit, tb] at this
    simp [h] at this
  · intro h
    apply Nat.eq_of_testBit_eq
    intro j
    rw [Nat.testBit_and, p2_bit, Nat.zero_testBit]
    by_cases ej : k = j
    · subst ej; rw [tb]; simp [h]
    · simp [ej]
theorem on_toI {k : Nat} (h : k < 100000) : (Int32.ofNat k).toInt = k := (on_k h).2.1
theorem on_mulI {a b : Nat} (h : a * b < 100000) (ha : a < 100000) (hb : b < 100000) : Int32.ofNat a * Int32.ofNat b = Int32.ofNat (a * b) := by
  have e : ((a * b : Nat) : Int) = (a : Int) * b := by simp
  rw [i_eq, fb_mulI (by rw [on_toI ha, on_toI hb, ← e]; omega) (by rw [on_toI ha, on_toI hb, ← e]; omega), on_toI ha, on_toI hb, on_toI h, e]
theorem on_addI {a b : Nat} (h : a + b < 100000) : Int32.ofNat a + Int32.ofNat b = Int32.ofNat (a + b) := by
  rw [i_eq, i_add (by rw [on_toI (by omega), on_toI (by omega)]; omega) (by rw [on_toI (by omega), on_toI (by omega)]; omega), on_toI (by omega), on_toI (by omega), on_toI h]; omega
theorem on_subI {a b : Nat} (h : b ≤ a) (ha : a < 100000) : Int32.ofNat a - Int32.ofNat b = Int32.ofNat (a - b) := by
  rw [i_eq, i_sub (by rw [on_toI (by omega), on_toI (by omega)]; omega) (by rw [on_toI (by omega), on_toI (by omega)]; omega), on_toI (by omega), on_toI (by omega), on_toI (by omega)]; omega
theorem n_isPicked {v : Int64} {i p q : Nat} (hp : 1 ≤ p) (hq : p ≤ q) (hq8 : q ≤ 8) (hk : i * q + p - 1 < 48) : f_X5_isPicked (Int32.ofNat i) (Int32.ofNat p) (Int32.ofNat q) v = some (if PB v (i * q + p - 1) then 1 else 0) := by
  have hi : i ≤ i * q := Nat.le_mul_of_pos_right i (by omega)
  unfold f_X5_isPicked
  rw [on_mulI (by omega) (by omega) (by omega), on_addI (by omega), show (1 : Int32) = Int32.ofNat 1 from rfl, on_subI (by omega) (by omega)]
  by_cases h : PB v (i * q + p - 1)
  · rw [if_pos h, if_neg (fun z => (pk_bit hk).mp z h)]
  · rw [if_neg h, if_pos ((pk_bit hk).mpr h)]
def LPk (v : Int64) (q i p : Nat) : Prop := 1 ≤ p ∧ p ≤ q ∧ PB v (i * q + p - 1)
def GXk (v : Int64) (q i m wn : Nat) : Prop := wn = 0 ∨ ∃ x y, LPk v q i x ∧ LPk v q i y ∧ x < y ∧ y ≤ m ∧ y - x = wn ∧ ∀ r, x < r → r < y → ¬ LPk v q i r
theorem n_look {v : Int64} {i q : Nat} (d0 s0 w0 : Int32) (hq : 1 ≤ q) (hq8 : q ≤ 8) (hk : i * q + q ≤ 48) : ∃ d sh wd : Int32, f_X3_look (Int32.ofNat i) d0 s0 w0 (Int32.ofNat q) v = some (d, sh, wd) ∧ LK (q + 1) (LPk v q i) d.toInt sh.toInt wd.toInt ∧ (0 ≤ d.toInt ∧ d.toInt ≤ q) ∧ (0 ≤ sh.toInt ∧ sh.toInt ≤ q) ∧ 0 ≤ wd.toInt ∧ wd.toInt ≤ q ∧ ∃ dn : Nat, d = Int32.ofNat dn ∧ dn ≤ q ∧ (∀ p, LPk v q i p → p ≤ dn) ∧ (dn = 0 ∨ LPk v q i dn) := by
  have z0 : (0 : Int32) = Int32.ofNat 0 := rfl
  obtain ⟨⟨d, sh, wd⟩, q1, q2⟩ := lp_one (f := fun z : Int32 × Int32 × Int32 × Int32 => f_X3_look_L17 (Int32.ofNat i) (Int32.ofNat q) v z.1 z.2.1 z.2.2.1 z.2.2.2)
    (fun z => ∃ m dn sn wn : Nat, z = (Int32.ofNat (m + 1), Int32.ofNat dn, Int32.ofNat sn, Int32.ofNat wn) ∧ m ≤ q ∧ ((dn = 0 ∧ sn = 0 ∧ wn = 0 ∧ ∀ p, p ≤ m → ¬ LPk v q i p) ∨ (1 ≤ sn ∧ sn ≤ dn ∧ dn ≤ m ∧ wn ≤ dn ∧ LPk v q i dn ∧ LPk v q i sn ∧ (∀ p, p ≤ m → LPk v q i p → sn ≤ p ∧ p ≤ dn) ∧ (∀ x y, LPk v q i x → LPk v q i y → x < y → y ≤ m → (∀ r, x < r → r < y → ¬ LPk v q i r) → y - x ≤ wn) ∧ GXk v q i m wn)))
    (fun e => ∃ dn sn wn : Nat, e = (Int32.ofNat dn, Int32.ofNat sn, Int32.ofNat wn) ∧ ((dn = 0 ∧ sn = 0 ∧ wn = 0 ∧ ∀ p, p ≤ q → ¬ LPk v q i p) ∨ (1 ≤ sn ∧ sn ≤ dn ∧ dn ≤ q ∧ wn ≤ dn ∧ LPk v q i dn ∧ LPk v q i sn ∧ (∀ p, p ≤ q → LPk v q i p → sn ≤ p ∧ p ≤ dn) ∧ (∀ x y, LPk v q i x → LPk v q i y → x < y → y ≤ q → (∀ r, x < r → r < y → ¬ LPk v q i r) → y - x ≤ wn) ∧ GXk v q i q wn))) (fun z => msr z.1 9) (by
    rintro ⟨n3, dd, ss, ww⟩ ⟨m, dn, sn, wn, h0, h1, h2⟩
    cases h0
    dsimp only
    unfold f_X3_look_L17 f_X3_look_L17_J71 f_X3_look_L17_J66 f_X3_look_L17_J71
    by_cases e : m = q
    · right
      subst e
      rw [if_pos ((on_lt (k := m) (m := m + 1) (by omega) (by omega)).mpr (by omega))]
      exact ⟨_, rfl, dn, sn, wn, rfl, h2⟩
    · left
      rw [if_neg (fun z => absurd ((on_lt (k := q) (m := m + 1) (by omega) (by omega)).mp z) (by omega)), n_isPicked (by omega) (by omega) (by omega) (by omega), bnd1_s]
      have mm : msr (Int32.ofNat (m + 1) + 1) 9 < msr (Int32.ofNat (m + 1)) 9 := msr_lt ((on_lt (k := m + 1) (m := 9) (by omega) (by omega)).mpr (by omega))
      by_cases hp : PB v (i * q + (m + 1) - 1)
      · have hP : LPk v q i (m + 1) := ⟨by omega, by omega, hp⟩
        rw [if_pos hp, if_neg one_ne]
        rcases h2 with ⟨a1, a2, a3, a4⟩ | ⟨a1, a2, a3, a4, a5, a6, a7, a8, a9⟩
        · subst a1 a2 a3
          rw [if_pos (show Int32.ofNat 0 = 0 from rfl), on_inc]
          rw [on_inc] at mm
          refine ⟨_, rfl, ⟨m + 1, m + 1, m + 1, 0, rfl, by omega, Or.inr ⟨by omega, by omega, by omega, by omega, hP, hP, fun p p1 p2 => ?_, fun x y x1 y1 xy y2 hr => ?_, Or.inl rfl⟩⟩, mm⟩
          · by_cases ep : p = m + 1
            · omega
            · exact absurd p2 (a4 p (by omega))
          · exact absurd x1 (a4 x (by omega))
        · have nz : ¬ Int32.ofNat dn = 0 := fun z => by
            have := congrArg Int32.toInt z
            rw [on_toI (by omega), show (0 : Int32).toInt = 0 from rfl] at this
            omega
          have ew : (if Int32.ofNat wn < Int32.ofNat (m + 1) - Int32.ofNat dn then Int32.ofNat (m + 1) - Int32.ofNat dn else Int32.ofNat wn) = Int32.ofNat (if wn < m + 1 - dn then m + 1 - dn else wn) := by
            rw [on_subI (by omega) (by omega)]
            by_cases h : wn < m + 1 - dn
            · rw [if_pos h, if_pos ((on_lt (by omega) (by omega)).mpr h)]
            · rw [if_neg h, if_neg (fun z => h ((on_lt (by omega) (by omega)).mp z))]
          rw [if_neg nz, ew, on_inc]
          rw [on_inc] at mm
          have wv : (wn < m + 1 - dn ∧ (if wn < m + 1 - dn then m + 1 - dn else wn) = m + 1 - dn) ∨ (m + 1 - dn ≤ wn ∧ (if wn < m + 1 - dn then m + 1 - dn else wn) = wn) := by
            by_cases h : wn < m + 1 - dn
            · exact Or.inl ⟨h, if_pos h⟩
            · exact Or.inr ⟨by omega, if_neg h⟩
          generalize (if wn < m + 1 - dn then m + 1 - dn else wn) = wx at wv
          have gap : ∀ r, dn < r → r < m + 1 → ¬ LPk v q i r := fun r r1 r2 r3 => by
            have := (a7 r (by omega) r3).2
            omega
          refine ⟨_, rfl, ⟨m + 1, m + 1, sn, wx, rfl, by omega, Or.inr ⟨by omega, by omega, by omega, by omega, hP, a6, fun p p1 p2 => ?_, fun x y x1 y1 xy y2 hr => ?_, ?_⟩⟩, mm⟩
          · by_cases ep : p = m + 1
            · omega
            · have := a7 p (by omega) p2; omega
          · by_cases ey : y = m + 1
            · have hx := (a7 x (by omega) x1).2
              have : x = dn := by
                apply Classical.byContradiction
                intro hh
                exact hr dn (by omega) (by omega) a5
              omega
            · have := a8 x y x1 y1 xy (by omega) hr
              omega
          · rcases wv with ⟨w1, w2⟩ | ⟨w1, w2⟩
            · exact Or.inr ⟨dn, m + 1, a5, hP, by omega, by omega, by omega, gap⟩
            · rw [w2]
              rcases a9 with y | ⟨x, y, b1, b2, b3, b4, b5, b6⟩
              · exact Or.inl y
              · exact Or.inr ⟨x, y, b1, b2, b3, by omega, b5, b6⟩
      · have hP : ¬ LPk v q i (m + 1) := fun z => hp z.2.2
        rw [if_neg hp, if_pos rfl, on_inc]
        rw [on_inc] at mm
        have low : ∀ p, p ≤ m + 1 → LPk v q i p → p ≤ m := fun p p1 p2 => by
          by_cases ep : p = m + 1
          · rw [ep] at p2; exact absurd p2 hP
          · omega
        refine ⟨_, rfl, ⟨m + 1, dn, sn, wn, rfl, by omega, ?_⟩, mm⟩
        rcases h2 with ⟨a1, a2, a3, a4⟩ | ⟨a1, a2, a3, a4, a5, a6, a7, a8, a9⟩
        · exact Or.inl ⟨a1, a2, a3, fun p p1 p2 => a4 p (low p p1 p2) p2⟩
        · refine Or.inr ⟨a1, a2, by omega, a4, a5, a6, fun p p1 p2 => a7 p (low p p1 p2) p2, fun x y x1 y1 xy y2 hr => a8 x y x1 y1 xy (low y y2 y1) hr, ?_⟩
          rcases a9 with y | ⟨x, y, b1, b2, b3, b4, b5, b6⟩
          · exact Or.inl y
          · exact Or.inr ⟨x, y, b1, b2, b3, by omega, b5, b6⟩) fu (1, 0, 0, 0) ⟨0, 0, 0, 0, rfl, by omega, Or.inl ⟨rfl, rfl, rfl, fun p p1 p2 => by have := p2.1; omega⟩⟩ (msr_fu (by dsimp only; decide) (by decide))
  obtain ⟨dn, sn, wn, e, h⟩ := q2
  cases e
  refine ⟨_, _, _, by unfold f_X3_look; rw [q1]; rfl, ?_⟩
  rcases h with ⟨a1, a2, a3, a4⟩ | ⟨a1, a2, a3, a4, a5, a6, a7, a8, a9⟩
  · subst a1 a2 a3
    have e0 : (Int32.ofNat 0).toInt = 0 := rfl
    rw [e0]
    exact ⟨Or.inl ⟨rfl, fun p hp => a4 p hp.2.1 hp⟩, by omega, by omega, by omega, by omega, 0, rfl, by omega, fun p hp => absurd hp (a4 p hp.2.1), Or.inl rfl⟩
  · rw [on_toI (show dn < 100000 by omega), on_toI (show sn < 100000 by omega), on_toI (show wn < 100000 by omega)]
    refine ⟨Or.inr ⟨by omega, fun p hp => ?_, ⟨dn, a5, rfl⟩, ⟨sn, a6, rfl⟩, by omega, by omega, fun x y x1 y1 xy hr => ?_, ?_⟩, by omega, by omega, by omega, by omega, dn, rfl, by omega, fun p hp => (a7 p hp.2.1 hp).2, Or.inr a5⟩
    · have := a7 p hp.2.1 hp
      have := hp.2.1
      have := hp.1
      omega
    · have := a8 x y x1 y1 xy y1.2.1 hr
      omega
    · rcases a9 with y | ⟨x, y, b1, b2, b3, b4, b5, b6⟩
      · exact ⟨0, 0, Nat.le_refl _, by omega, by omega, fun p _ => Or.inr (by omega)⟩
      · refine ⟨x, y, by omega, by omega, by omega, fun p hp => ?_⟩
        by_cases c1 : p ≤ x
        · exact Or.inl c1
        · by_cases c2 : y ≤ p
          · exact Or.inr c2
          · exact absurd hp (b6 p (by omega) (by omega))
theorem bnd4_s {α1 α2 α3 α4 δ : Type} {a : α1} {b : α2} {c : α3} {d : α4} {f : α1 → α2 → α3 → α4 → Option δ} : bnd4 (some (a, b, c, d)) f = f a b c d := rfl
theorem bnd3_s {α1 α2 α3 δ : Type} {a : α1} {b : α2} {c : α3} {f : α1 → α2 → α3 → Option δ} : bnd3 (some (a, b, c)) f = f a b c := rfl
theorem bnd2_s {α1 α2 δ : Type} {a : α1} {b : α2} {f : α1 → α2 → Option δ} : bnd2 (some (a, b)) f = f a b := rfl
def lkf (v : Int64) (q i : Nat) : Int × Int × Int := match f_X3_look (Int32.ofNat i) 0 0 0 (Int32.ofNat q) v with
  | some (d, s, w) => (d.toInt, s.toInt, w.toInt)
  | none => (0, 0, 0)
theorem lk_at {v : Int64} {i q : Nat} (hq : 1 ≤ q) (hq8 : q ≤ 8) (hk : i * q + q ≤ 48) : ∃ d sh wd : Int32, (∀ d0 s0 w0, f_X3_look (Int32.ofNat i) d0 s0 w0 (Int32.ofNat q) v = some (d, sh, wd)) ∧ lkf v q i = (d.toInt, sh.toInt, wd.toInt) ∧ LK (q + 1) (LPk v q i) d.toInt sh.toInt wd.toInt ∧ (0 ≤ d.toInt ∧ d.toInt ≤ q) ∧ (0 ≤ sh.toInt ∧ sh.toInt ≤ q) ∧ (0 ≤ wd.toInt ∧ wd.toInt ≤ q) ∧ ∃ dn : Nat, d = Int32.ofNat dn ∧ dn ≤ q ∧ (∀ p, LPk v q i p → p ≤ dn) ∧ (dn = 0 ∨ LPk v q i dn) := by
  obtain ⟨d, sh, wd, h1, h2, h3, h4, h5, h6, h7⟩ := n_look (v := v) (i := i) (q := q) 0 0 0 hq hq8 hk
  refine ⟨d, sh, wd, fun d0 s0 w0 => ?_, ?_, h2, h3, h4, ⟨h5, h6⟩, h7⟩
  · have : f_X3_look (Int32.ofNat i) d0 s0 w0 (Int32.ofNat q) v = f_X3_look (Int32.ofNat i) 0 0 0 (Int32.ofNat q) v := rfl
    rw [this, h1]
  · unfold lkf; rw [h1]
theorem lane_in {i M q : Nat} (hi : i < M) (hM : M * q ≤ 48) : i * q + q ≤ 48 := by
  have := Nat.mul_le_mul_right q (show i + 1 ≤ M by omega)
  rw [Nat.add_mul, Nat.one_mul] at this
  omega
theorem on_ne1 {k : Nat} (h : k < 100000) : ¬ Int32.ofNat k = -1 := fun z => by
  have := congrArg Int32.toInt z
  rw [on_toI h, show (-1 : Int32).toInt = -1 from rfl] at this
  omega
theorem on_le0 {k : Nat} (h : k < 100000) : Int32.ofNat k ≤ 0 ↔ k = 0 := by
  rw [i_le, on_toI h, show (0 : Int32).toInt = 0 from rfl]; omega
/-- the greatest lane with a place of the wave -/
def LL (v : Int64) (q M k : Nat) : Prop := k < M ∧ (∃ p, LPk v q k p) ∧ ∀ i p, k < i → i < M → ¬ LPk v q i p
theorem n_lastLane {v : Int64} {M q : Nat} (d0 s0 w0 : Int32) (hq : 1 ≤ q) (hq8 : q ≤ 8) (hM6 : M ≤ 6) (hM : M * q ≤ 48) : ∃ r d s w, f_X3_lastLane d0 s0 w0 (Int32.ofNat M) (Int32.ofNat q) v = some (r, d, s, w) ∧ ((r = -1 ∧ ∀ i p, i < M → ¬ LPk v q i p) ∨ ∃ k, r = Int32.ofNat k ∧ LL v q M k) := by
  obtain ⟨⟨r, d, s, w⟩, q1, q2⟩ := lp_one (f := fun z : Int32 × Int32 × Int32 × Int32 × Int32 => f_X3_lastLane_L4 (Int32.ofNat M) (Int32.ofNat q) v z.1 z.2.1 z.2.2.1 z.2.2.2.1 z.2.2.2.2)
    (fun z => ∃ n : Nat, z.2.1 = Int32.ofNat n ∧ n ≤ M ∧ ((z.1 = -1 ∧ ∀ i p, i < n → ¬ LPk v q i p) ∨ ∃ k, z.1 = Int32.ofNat k ∧ LL v q n k)) (fun e => (e.1 = -1 ∧ ∀ i p, i < M → ¬ LPk v q i p) ∨ ∃ k, e.1 = Int32.ofNat k ∧ LL v q M k) (fun z => msr z.2.1 10) (by
    rintro ⟨a, b, c, d, e⟩ ⟨n, h1, h2, h3⟩
    dsimp only at h1 h3
    subst h1
    dsimp only
    unfold f_X3_lastLane_L4 f_X3_lastLane_L4_J27
    by_cases en : n = M
    · right
      subst en
      rw [if_pos (Int32.le_refl _)]
      exact ⟨_, rfl, h3⟩
    · left
      have nl : n < M := by omega
      rw [if_neg (fun z => absurd ((on_le (k := M) (m := n) (by omega) (by omega)).mp z) (by omega))]
      obtain ⟨dd, ss, ww, l1, l2, l3, l4, l5, l6, dn, l7, l8, l9, l10⟩ := lk_at (v := v) (i := n) hq hq8 (lane_in nl hM)
      rw [l1]
      have mm : msr (Int32.ofNat n + 1) 10 < msr (Int32.ofNat n) 10 := msr_lt ((on_lt (k := n) (m := 10) (by omega) (by omega)).mpr (by omega))
      show ∃ s', (if dd ≤ 0 then some (Sum.inl (a, Int32.ofNat n + 1, dd, ss, ww)) else some (Sum.inl (Int32.ofNat n, Int32.ofNat n + 1, dd, ss, ww))) = some (Sum.inl s') ∧ _
      rw [l7, on_inc] at *
      by_cases hd : dn = 0
      · rw [if_pos ((on_le0 (by omega)).mpr hd)]
        have no : ∀ p, ¬ LPk v q n p := fun p hp => by have := l9 p hp; have := hp.1; omega
        refine ⟨_, rfl, ⟨n + 1, rfl, by omega, ?_⟩, mm⟩
        rcases h3 with ⟨g1, g2⟩ | ⟨k, g1, g2, g3, g4⟩
        · refine Or.inl ⟨g1, fun i p hi hp => ?_⟩
          by_cases ei : i = n
          · rw [ei] at hp; exact no p hp
          · exact g2 i p (by omega) hp
        · refine Or.inr ⟨k, g1, by omega, g3, fun i p hki hi hp => ?_⟩
          by_cases ei : i = n
          · rw [ei] at hp; exact no p hp
          · exact g4 i p hki (by omega) hp
      · rw [if_neg (fun z => hd ((on_le0 (by omega)).mp z))]
        have yes : LPk v q n dn := l10.resolve_left hd
        exact ⟨_, rfl, ⟨n + 1, rfl, by omega, Or.inr ⟨n, rfl, by omega, ⟨dn, yes⟩, fun i p h1 h2 => by omega⟩⟩, mm⟩) fu (-1, 0, d0, s0, w0) ⟨0, rfl, by omega, Or.inl ⟨rfl, fun i p hi => by omega⟩⟩ (msr_fu (by dsimp only; decide) (by decide))
  refine ⟨r, d, s, w, ?_, q2⟩
  unfold f_X3_lastLane
  rw [q1]
  rfl
theorem n_least {v : Int64} {M q : Nat} {g : Int32} {least next : Nat → Int32} (d0 s0 w0 : Int32) (hq : 1 ≤ q) (hq8 : q ≤ 8) (hM6 : M ≤ 6) (hM : M * q ≤ 48) (g0 : 0 ≤ g.toInt) (g5 : g.toInt ≤ 5) :
    ∃ r d s w l' n', f_X3_least d0 s0 w0 least next (Int32.ofNat M) (Int32.ofNat q) g v = some (r, d, s, w, l', n') ∧ ((r = 0 ∧ ∀ i p, i < M → ¬ LPk v q i p) ∨ ∃ k, LL v q M k ∧ ∀ s, s = wlk ((q + 1 : Nat) : Int) (lkf v q k).1 (lkf v q k).2.1 (lkf v q k).2.2 (wst ((q + 1 : Nat) : Int) g.toInt (lkf v q) k) → r.toInt = min s.2.1 (min s.2.2.1 s.2.2.2.1)) := by
  obtain ⟨r, d, s, w, h1, h2⟩ := n_lastLane (v := v) d0 s0 w0 hq hq8 hM6 hM
  unfold f_X3_least
  rw [h1]
  rcases h2 with ⟨h2, h3⟩ | ⟨k, h2, h3, h4, h5⟩
  · subst h2
    exact ⟨0, d, s, w, least, next, by rw [bnd4_s, if_pos rfl], Or.inl ⟨rfl, h3⟩⟩
  · subst h2
    obtain ⟨l1, t1, t2⟩ := n_five (h := fun _ _ => 1000000) (G := fun z => f_X3_least_L15 (Int32.ofNat k) d s w next (Int32.ofNat M) (Int32.ofNat q) g v z.1 z.2) (f0 := least) (fun f => rfl) (fun j f hj => by
      unfold f_X3_least_L15
      dsimp only
      have a1 := (on_k (show j < 100000 by omega)).2.2
      have a2 : Int32.ofNat j < 5 := (on_lt (k := j) (m := 5) (by omega) (by omega)).mpr hj
      rw [if_neg (Int32.not_le.mpr a2), gd_5 a1 a2, on_inc, (on_k (show j < 100000 by omega)).1])
    have pq : (Int32.ofNat q + 1).toInt = ((q + 1 : Nat) : Int) := by rw [on_inc, on_toI (by omega)]
    have IA : AR (upd l1 (1 : Int32).toNatClampNeg 0) (wst ((q + 1 : Nat) : Int) g.toInt (lkf v q) 0) := by
      have F : (1000000 : Int32).toInt = 1000000 := by decide
      have e0 : upd l1 (1 : Int32).toNatClampNeg 0 0 = l1 0 := upd_of (by decide)
      have e1 : upd l1 (1 : Int32).toNatClampNeg 0 1 = 0 := upd_eq
      have e2 : upd l1 (1 : Int32).toNatClampNeg 0 2 = l1 2 := upd_of (by decide)
      have e3 : upd l1 (1 : Int32).toNatClampNeg 0 3 = l1 3 := upd_of (by decide)
      have e4 : upd l1 (1 : Int32).toNatClampNeg 0 4 = l1 4 := upd_of (by decide)
      unfold wst
      refine ⟨?_, ?_, ?_, ?_, ?_⟩ <;> dsimp only
      · rw [e0, t2 0 (by omega)]; exact F
      · rw [e1]; rfl
      · rw [e2, t2 2 (by omega)]; exact F
      · rw [e3, t2 3 (by omega)]; exact F
      · rw [e4, t2 4 (by omega)]; exact F
    have IB : BDW (1000000 + 40 * ((0 : Nat) : Int)) (wst ((q + 1 : Nat) : Int) g.toInt (lkf v q) 0) := by
      unfold wst BDW
      dsimp only
      refine ⟨?_, ?_, ?_, ?_, ?_⟩ <;> omega
    obtain ⟨⟨d', s', w', l', n'⟩, t3, t4⟩ := lp_one (f := fun z : Int32 × Int32 × Int32 × Int32 × (Nat → Int32) × (Nat → Int32) => f_X3_least_L43 (Int32.ofNat k) (Int32.ofNat M) (Int32.ofNat q) g v z.1 z.2.1 z.2.2.1 z.2.2.2.1 z.2.2.2.2.1 z.2.2.2.2.2)
      (fun z => ∃ i : Nat, z.1 = Int32.ofNat i ∧ i ≤ k + 1 ∧ ∃ t, AR z.2.2.2.2.1 t ∧ BDW (1000000 + 40 * i) t ∧ ((i = 0 ∧ t = wst ((q + 1 : Nat) : Int) g.toInt (lkf v q) 0) ∨ ∃ j, i = j + 1 ∧ t = wlk ((q + 1 : Nat) : Int) (lkf v q j).1 (lkf v q j).2.1 (lkf v q j).2.2 (wst ((q + 1 : Nat) : Int) g.toInt (lkf v q) j)))
      (fun e => AR e.2.2.2.1 (wlk ((q + 1 : Nat) : Int) (lkf v q k).1 (lkf v q k).2.1 (lkf v q k).2.2 (wst ((q + 1 : Nat) : Int) g.toInt (lkf v q) k))) (fun z => msr z.1 10) (by
      rintro ⟨a, b, c, e, f, f'⟩ ⟨i, i1, i2, t, i3, i4, i5⟩
      dsimp only at i1 i3
      subst i1
      dsimp only
      unfold f_X3_least_L43 f_X3_least_L43_J60
      by_cases ei : i = k + 1
      · right
        rw [if_pos ((on_lt (by omega) (by omega)).mpr (by omega))]
        refine ⟨_, rfl, ?_⟩
        rcases i5 with ⟨j1, -⟩ | ⟨j, j1, j2⟩
        · omega
        · rw [show j = k by omega] at j2
          rw [← j2]; exact i3
      · left
        rw [if_neg (fun z => absurd ((on_lt (k := k) (m := i) (by omega) (by omega)).mp z) (by omega))]
        have mm : msr (Int32.ofNat i + 1) 10 < msr (Int32.ofNat i) 10 := msr_lt ((on_lt (k := i) (m := 10) (by omega) (by omega)).mpr (by omega))
        obtain ⟨dd, ss, ww, k1, k2, k3, k4, k5, k6, -⟩ := lk_at (v := v) (i := i) hq hq8 (lane_in (show i < M by omega) hM)
        have fin : ∀ (f f' : Nat → Int32) (t : W5), AR f t → BDW (1000000 + 40 * i + 20) t → t = wst ((q + 1 : Nat) : Int) g.toInt (lkf v q) i →
            ∃ s', bnd3 (f_X3_look (Int32.ofNat i) b c e (Int32.ofNat q) v) (fun o16 o17 o18 => bnd2 (f_X3_walkLane (Int32.ofNat q + 1) o16 o17 o18 f f') (fun o21 o22 => some (Sum.inl (Int32.ofNat i + 1, o16, o17, o18, o21, o22)))) = some (Sum.inl s' : (Int32 × Int32 × Int32 × Int32 × (Nat → Int32) × (Nat → Int32)) ⊕ (Int32 × Int32 × Int32 × (Nat → Int32) × (Nat → Int32))) ∧ (∃ i : Nat, s'.1 = Int32.ofNat i ∧ i ≤ k + 1 ∧ ∃ t, AR s'.2.2.2.2.1 t ∧ BDW (1000000 + 40 * i) t ∧ ((i = 0 ∧ t = wst ((q + 1 : Nat) : Int) g.toInt (lkf v q) 0) ∨ ∃ j, i = j + 1 ∧ t = wlk ((q + 1 : Nat) : Int) (lkf v q j).1 (lkf v q j).2.1 (lkf v q j).2.2 (wst ((q + 1 : Nat) : Int) g.toInt (lkf v q) j))) ∧ msr s'.1 10 < msr (Int32.ofNat i) 10 := fun f f' t g1 g2 g3 => by
          obtain ⟨lx, nx, u1, u2⟩ := n_walk (v := Int32.ofNat q + 1) (d := dd) (sh := ss) (wd := ww) (next := f') (by rw [pq]; omega) (by rw [pq]; omega) (by omega) (by omega) (by omega) g1 (by
            obtain ⟨x0, x1, x2, x3, x4⟩ := g2
            refine ⟨?_, ?_, ?_, ?_, ?_⟩ <;> omega)
          rw [k1]
          refine ⟨(Int32.ofNat i + 1, dd, ss, ww, lx, nx), ?_, ⟨i + 1, by dsimp only; rw [on_inc], by omega, wlk (Int32.ofNat q + 1).toInt dd.toInt ss.toInt ww.toInt t, u2, ?_, Or.inr ⟨i, rfl, ?_⟩⟩, mm⟩
          · rw [bnd3_s, u1, bnd2_s]
          · have := BDW_walk (L := (Int32.ofNat q + 1).toInt) (d := dd.toInt) (sh := ss.toInt) (wd := ww.toInt) (by rw [pq]; omega) (by omega) (by rw [pq]; omega) (by rw [pq]; omega) (by omega) g2
            rw [show (1000000 : Int) + 40 * ((i + 1 : Nat) : Int) = 1000000 + 40 * i + 20 + 20 by omega]
            exact this
          · rw [k2, pq, g3]
        by_cases e0 : i = 0
        · rw [if_pos ((on_le0 (by omega)).mpr e0)]
          refine fin f f' t i3 ?_ ?_
          · obtain ⟨x0, x1, x2, x3, x4⟩ := i4
            refine ⟨?_, ?_, ?_, ?_, ?_⟩ <;> omega
          · rcases i5 with ⟨-, j2⟩ | ⟨j, j1, j2⟩
            · rw [j2, e0]
            · omega
        · rw [if_neg (fun z => e0 ((on_le0 (by omega)).mp z))]
          obtain ⟨lc, nc, c1, c2⟩ := n_cross (next := f') g0 g5 i3 (by
            obtain ⟨x0, x1, x2, x3, x4⟩ := i4
            refine ⟨?_, ?_, ?_, ?_, ?_⟩ <;> omega)
          rw [c1]
          refine fin lc nc _ c2 (BDW_cross g0 g5 i4) ?_
          rcases i5 with ⟨j1, -⟩ | ⟨j, j1, j2⟩
          · omega
          · rw [j2, j1]; rfl) fu (0, d, s, w, upd l1 (1 : Int32).toNatClampNeg 0, next) ⟨0, rfl, by omega, _, IA, IB, Or.inl ⟨rfl, rfl⟩⟩ (msr_fu (by dsimp only; decide) (by decide))
    · refine ⟨if (if l' (3 : Int32).toNatClampNeg < l' (2 : Int32).toNatClampNeg then l' (3 : Int32).toNatClampNeg else l' (2 : Int32).toNatClampNeg) < l' (1 : Int32).toNatClampNeg then (if l' (3 : Int32).toNatClampNeg < l' (2 : Int32).toNatClampNeg then l' (3 : Int32).toNatClampNeg else l' (2 : Int32).toNatClampNeg) else l' (1 : Int32).toNatClampNeg, d', s', w', l', n', ?_, Or.inr ⟨k, ⟨h3, h4, h5⟩, fun x hx => ?_⟩⟩
      · rw [bnd4_s, if_neg (on_ne1 (by omega)), t1, bnd1_s, gd5_1, t3, bnd5_s, gd5_1, gd5_2, gd5_3]
      · subst hx
        obtain ⟨-, a1, a2, a3, -⟩ := t4
        dsimp only at a1 a2 a3
        rw [tn_1, tn_2, tn_3, i_min2, i_min2, a1, a2, a3, Int.min_comm, Int.min_comm (wlk ((q + 1 : Nat) : Int) (lkf v q k).1 (lkf v q k).2.1 (lkf v q k).2.2 (wst ((q + 1 : Nat) : Int) g.toInt (lkf v q) k)).2.2.2.1]
/-! ===== the places of the wave, in the model ===== -/
/-- how many of the first k places are of the wave -/
def cn (v : Int64) : Nat → Nat
  | 0 => 0
  | k + 1 => cn v k + if PB v k then 1 else 0
theorem cn_t {v : Int64} {k : Nat} (h : PB v k) : cn v (k + 1) = cn v k + 1 := by
  show cn v k + (if PB v k then 1 else 0) = _
  rw [if_pos h]
theorem cn_f {v : Int64} {k : Nat} (h : ¬ PB v k) : cn v (k + 1) = cn v k := by
  show cn v k + (if PB v k then 1 else 0) = _
  rw [if_neg h]; rfl
theorem cn_le {v : Int64} {j : Nat} : ∀ k, j ≤ k → cn v j ≤ cn v k := by
  intro k
  induction k with
  | zero => intro h; rw [show j = 0 by omega]; exact Nat.le_refl _
  | succ k ih =>
    intro h
    have : cn v k ≤ cn v (k + 1) := by
      show cn v k ≤ cn v k + (if PB v k then 1 else 0)
      exact Nat.le_add_right _ _
    by_cases e : j = k + 1
    · rw [e]; exact Nat.le_refl _
    · exact Nat.le_trans (ih (by omega)) this
theorem cn_lt {v : Int64} {j k : Nat} (hj : PB v j) (h : j < k) : cn v j < cn v k := by
  have := cn_le (v := v) (j := j + 1) k h
  rw [cn_t hj] at this
  omega
theorem cn_self {v : Int64} : ∀ k, cn v k ≤ k := by
  intro k
  induction k with
  | zero => exact Nat.le_refl _
  | succ k ih => unfold cn; split <;> omega
theorem cn_surj {v : Int64} : ∀ k m, m < cn v k → ∃ j, j < k ∧ PB v j ∧ cn v j = m := by
  intro k
  induction k with
  | zero => intro m hm; unfold cn at hm; omega
  | succ k ih =>
    intro m hm
    by_cases h : PB v k
    · rw [cn_t h] at hm
      by_cases e : m = cn v k
      · exact ⟨k, by omega, h, e.symm⟩
      · obtain ⟨j, a, b, c⟩ := ih m (by omega)
        exact ⟨j, by omega, b, c⟩
    · rw [cn_f h] at hm
      obtain ⟨j, a, b, c⟩ := ih m hm
      exact ⟨j, by omega, b, c⟩
def MW (w : Nat → Int32) (M q : Nat) (g : Int32) (v : Int64) : Prop := w 1 = Int32.ofNat M ∧ w 2 = Int32.ofNat q ∧ w 4 = g ∧ (∀ k, k < 48 → w (159 + k) = if PB v k then 1 else 0) ∧ ∀ k, k < 48 → PB v k → k < M * q
theorem on_div {k q : Nat} (hq : 1 ≤ q) (hk : k < 100000) (hq2 : q < 100000) : Int32.ofNat k / Int32.ofNat q = Int32.ofNat (k / q) := by
  have := Nat.div_le_self k q
  rw [i_eq, Int32.toInt_div_of_ne_left _ _ (fun h => by
    have := congrArg Int32.toInt h
    rw [on_toI hk] at this
    rw [show Int32.minValue.toInt = -2147483648 from rfl] at this
    omega), on_toI hk, on_toI hq2, on_toI (by omega), Int.tdiv_eq_ediv_of_nonneg (by omega)]
  simp
theorem n_lane {w : Nat → Int32} {M q k : Nat} {g : Int32} {v : Int64} (hW : MW w M q g v) (hq : 1 ≤ q) (hq8 : q ≤ 8) (hk : k < 48) : f_Y8_laneOf (Int32.ofNat k) w = some (Int32.ofNat (k / q)) ∧ f_Y8_positionOf (Int32.ofNat k) w = some (Int32.ofNat (k % q + 1)) := by
  have e2 : w (2 : Int32).toNatClampNeg = Int32.ofNat q := hW.2.1
  have nz : Int32.ofNat q ≠ 0 := fun z => by
    have := congrArg Int32.toInt z
    rw [on_toI (by omega), show (0 : Int32).toInt = 0 from rfl] at this
    omega
  have dv := Nat.div_add_mod k q
  have cm : q * (k / q) = k / q * q := Nat.mul_comm _ _
  have ml := Nat.mod_lt k (show 0 < q by omega)
  have dl := Nat.div_le_self k q
  constructor
  · unfold f_Y8_laneOf
    rw [gd_2450 (by decide) (by decide), e2, gz_ok nz, on_div hq (by omega) (by omega)]
  · unfold f_Y8_positionOf
    rw [gd_2450 (by decide) (by decide), e2, gz_ok nz, on_div hq (by omega) (by omega), on_mulI (by omega) (by omega) (by omega), on_subI (by omega) (by omega), on_inc, show k - k / q * q = k % q by omega]
theorem n_plc {w : Nat → Int32} {M q : Nat} {g : Int32} {v : Int64} (hW : MW w M q g v) (hM : M * q ≤ 48) (hM6 : M ≤ 6) (hq8 : q ≤ 8) : f_Y8_places w = some (Int32.ofNat (M * q)) := by
  rw [n_places, hW.1, hW.2.1, on_mulI (by omega) (by omega) (by omega)]
theorem on_159 {k : Nat} (hk : k < 48) : 159 + Int32.ofNat k = Int32.ofNat (159 + k) := by
  rw [show (159 : Int32) = Int32.ofNat 159 from rfl, on_addI (by omega)]
theorem n_picks {w : Nat → Int32} {M q : Nat} {g : Int32} {v : Int64} (hW : MW w M q g v) (hM : M * q ≤ 48) (hM6 : M ≤ 6) (hq8 : q ≤ 8) : f_Y8_picks w = some (Int32.ofNat (cn v (M * q))) := by
  obtain ⟨e, q1, q2⟩ := lp_one (f := fun z : Int32 × Int32 => f_Y8_picks_L4 w z.1 z.2) (fun z => ∃ k : Nat, z = (Int32.ofNat (cn v k), Int32.ofNat k) ∧ k ≤ M * q) (fun e => e = Int32.ofNat (cn v (M * q))) (fun z => msr z.2 49) (by
    rintro ⟨a, b⟩ ⟨k, h0, h1⟩
    cases h0
    unfold f_Y8_picks_L4
    dsimp only
    rw [n_plc hW hM hM6 hq8, bnd1_s]
    by_cases e : k = M * q
    · right
      rw [if_pos ((on_le (by omega) (by omega)).mpr (by omega)), ← e]
      exact ⟨_, rfl, rfl⟩
    · left
      have := cn_self (v := v) k
      rw [if_neg (fun z => absurd ((on_le (k := M * q) (m := k) (by omega) (by omega)).mp z) (by omega)), on_159 (by omega), gd_2450 (on_k (by omega)).2.2 ((on_lt (k := 159 + k) (m := 2450) (by omega) (by omega)).mpr (by omega)), (on_k (show 159 + k < 100000 by omega)).1, hW.2.2.2.1 k (by omega)]
      refine ⟨_, rfl, ⟨k + 1, ?_, by omega⟩, msr_lt ((on_lt (k := k) (m := 49) (by omega) (by omega)).mpr (by omega))⟩
      rw [on_inc]
      by_cases hp : PB v k
      · rw [if_pos hp, cn_t hp, on_inc]
      · rw [if_neg hp, cn_f hp, Int32.add_zero]) fu (0, 0) ⟨0, rfl, by omega⟩ (msr_fu (by dsimp only; decide) (by decide))
  unfold f_Y8_picks
  rw [q1, bnd1_s, q2]
theorem n_points {w lane position least : Nat → Int32} {M q : Nat} {g : Int32} {v : Int64} (hW : MW w M q g v) (hM : M * q ≤ 48) (hM6 : M ≤ 6) (hq : 1 ≤ q) (hq8 : q ≤ 8) (hc : cn v (M * q) ≤ 10) :
    ∃ la po, loop (fun z : Int32 × Int32 × (Nat → Int32) × (Nat → Int32) => f_Y8_leastWay_L4 w least z.1 z.2.1 z.2.2.1 z.2.2.2) fu (0, 0, lane, position) = some (Int32.ofNat (cn v (M * q)), la, po) ∧ ∀ j, j < M * q → PB v j → la (cn v j) = Int32.ofNat (j / q) ∧ po (cn v j) = Int32.ofNat (j % q + 1) := by
  obtain ⟨⟨n, la, po⟩, q1, q2, q3⟩ := lp_one (f := fun z : Int32 × Int32 × (Nat → Int32) × (Nat → Int32) => f_Y8_leastWay_L4 w least z.1 z.2.1 z.2.2.1 z.2.2.2) (fun z => ∃ k : Nat, z.1 = Int32.ofNat (cn v k) ∧ z.2.1 = Int32.ofNat k ∧ k ≤ M * q ∧ ∀ j, j < k → PB v j → z.2.2.1 (cn v j) = Int32.ofNat (j / q) ∧ z.2.2.2 (cn v j) = Int32.ofNat (j % q + 1))
    (fun e => e.1 = Int32.ofNat (cn v (M * q)) ∧ ∀ j, j < M * q → PB v j → e.2.1 (cn v j) = Int32.ofNat (j / q) ∧ e.2.2 (cn v j) = Int32.ofNat (j % q + 1)) (fun z => msr z.2.1 49) (by
    rintro ⟨a, b, la, po⟩ ⟨k, h0, h1, h2, h3⟩
    dsimp only at h0 h1 h3
    subst h0 h1
    unfold f_Y8_leastWay_L4 f_Y8_leastWay_L4_J51
    dsimp only
    rw [n_plc hW hM hM6 hq8, bnd1_s]
    by_cases e : k = M * q
    · right
      rw [if_pos ((on_le (by omega) (by omega)).mpr (by omega))]
      subst e
      exact ⟨_, rfl, rfl, h3⟩
    · left
      have mm : msr (Int32.ofNat k + 1) 49 < msr (Int32.ofNat k) 49 := msr_lt ((on_lt (k := k) (m := 49) (by omega) (by omega)).mpr (by omega))
      rw [if_neg (fun z => absurd ((on_le (k := M * q) (m := k) (by omega) (by omega)).mp z) (by omega)), on_159 (by omega), gd_2450 (on_k (by omega)).2.2 ((on_lt (k := 159 + k) (m := 2450) (by omega) (by omega)).mpr (by omega)), (on_k (show 159 + k < 100000 by omega)).1, hW.2.2.2.1 k (by omega)]
      rw [on_inc] at mm ⊢
      by_cases hp : PB v k
      · have c1 := cn_lt hp (show k < M * q by omega)
        obtain ⟨l1, l2⟩ := n_lane hW hq hq8 (show k < 48 by omega)
        have g1 := (on_k (show cn v k < 100000 by omega)).2.2
        have g2 : Int32.ofNat (cn v k) < 11 := (on_lt (k := cn v k) (m := 11) (by omega) (by omega)).mpr (by omega)
        rw [if_pos hp, if_pos rfl, l1, bnd1_s, gd_11 g1 g2, l2, bnd1_s, gd_11 g1 g2, (on_k (show cn v k < 100000 by omega)).1, on_inc]
        refine ⟨_, rfl, ⟨k + 1, by dsimp only; rw [cn_t hp], rfl, by omega, fun j hj pj => ?_⟩, mm⟩
        dsimp only
        by_cases ej : j = k
        · subst ej; rw [upd_eq, upd_eq]; exact ⟨rfl, rfl⟩
        · have := cn_lt pj (show j < k by omega)
          rw [upd_of (by omega), upd_of (by omega)]
          exact h3 j (by omega) pj
      · rw [if_neg hp, if_neg (show ¬ (0 : Int32) = 1 by decide), on_inc]
        refine ⟨_, rfl, ⟨k + 1, by dsimp only; rw [cn_f hp], rfl, by omega, fun j hj pj => ?_⟩, mm⟩
        dsimp only
        by_cases ej : j = k
        · subst ej; exact absurd pj hp
        · exact h3 j (by omega) pj) fu (0, 0, lane, position) ⟨0, rfl, rfl, by omega, fun j hj => by omega⟩ (msr_fu (by dsimp only; decide) (by decide))
  dsimp only at q2 q3
  subst q2
  exact ⟨la, po, q1, q3⟩
theorem n_between {w la po : Nat → Int32} {M q a b i p j r : Nat} {g : Int32} {v : Int64} (hW : MW w M q g v) (hq8 : q ≤ 8) (g0 : 0 ≤ g.toInt) (g5 : g.toInt ≤ 5) (ha : a < 11) (hb : b < 11) (a1 : la a = Int32.ofNat i) (a2 : po a = Int32.ofNat p) (b1 : la b = Int32.ofNat j) (b2 : po b = Int32.ofNat r) (hi : i ≤ 6) (hj : j ≤ 6) (hp : p ≤ q + 1) (hr : r ≤ q + 1) :
    ∃ t, f_Y8_between (Int32.ofNat a) (Int32.ofNat b) w la po = some t ∧ t.toInt = dst (q + 1) g.toInt (i, p) (j, r) := by
  have ga1 := (on_k (show a < 100000 by omega)).2.2
  have ga2 : Int32.ofNat a < 11 := (on_lt (k := a) (m := 11) (by omega) (by omega)).mpr ha
  have gb1 := (on_k (show b < 100000 by omega)).2.2
  have gb2 : Int32.ofNat b < 11 := (on_lt (k := b) (m := 11) (by omega) (by omega)).mpr hb
  have e2 : w (2 : Int32).toNatClampNeg = Int32.ofNat q := hW.2.1
  have e4 : w (4 : Int32).toNatClampNeg = g := hW.2.2.1
  unfold f_Y8_between f_Y8_between_J119 f_Y8_between_J144
  simp only [gd_11 ga1 ga2, gd_11 gb1 gb2, (on_k (show a < 100000 by omega)).1, (on_k (show b < 100000 by omega)).1, a1, a2, b1, b2]
  have lanes : Int32.ofNat i = Int32.ofNat j ↔ i = j := ⟨fun z => by
    have := congrArg Int32.toInt z
    rw [on_toI (by omega), on_toI (by omega)] at this
    omega, fun z => by rw [z]⟩
  unfold dst
  dsimp only
  by_cases hij : i = j
  · rw [if_pos (lanes.mpr hij), if_pos hij]
    by_cases hrp : r ≤ p
    · rw [if_pos ((on_le (by omega) (by omega)).mpr hrp), if_pos hrp]
      refine ⟨_, rfl, ?_⟩
      rw [on_subI hrp (by omega), on_toI (by omega)]; omega
    · rw [if_neg (fun z => hrp ((on_le (by omega) (by omega)).mp z)), if_neg hrp]
      refine ⟨_, rfl, ?_⟩
      rw [on_subI (by omega) (by omega), on_toI (by omega)]; omega
  · rw [if_neg (fun z => hij (lanes.mp z)), if_neg hij]
    simp only [gd_2450 (i := 2) (by decide) (by decide), gd_2450 (i := 4) (by decide) (by decide), e2, e4]
    have s1 : Int32.ofNat p + Int32.ofNat r = Int32.ofNat (p + r) := on_addI (by omega)
    have s2 : 2 * (Int32.ofNat q + 1) - Int32.ofNat p - Int32.ofNat r = Int32.ofNat (2 * (q + 1) - p - r) := by
      rw [on_inc, show (2 : Int32) = Int32.ofNat 2 from rfl, on_mulI (by omega) (by omega) (by omega), on_subI (by omega) (by omega), on_subI (by omega) (by omega)]
    rw [s1, s2]
    have fin : ∀ d : Nat, d ≤ 6 → (g * Int32.ofNat d).toInt = g.toInt * d := fun d hd => by
      have m1 : 0 ≤ g.toInt * d := Int.mul_nonneg g0 (by omega)
      have m2 : g.toInt * d ≤ 5 * 6 := Int.mul_le_mul g5 (by omega) (by omega) (by omega)
      rw [fb_mulI (by rw [on_toI (by omega)]; omega) (by rw [on_toI (by omega)]; omega), on_toI (by omega)]
    have fin2 : ∀ d : Nat, d ≤ 6 → ∃ t, (if Int32.ofNat (2 * (q + 1) - p - r) ≤ Int32.ofNat (p + r) then some (g * Int32.ofNat d + Int32.ofNat (2 * (q + 1) - p - r)) else some (g * Int32.ofNat d + Int32.ofNat (p + r))) = some t ∧ t.toInt = g.toInt * d + min ((p : Int) + r) (2 * ((q + 1 : Nat) : Int) - p - r) := fun d hd => by
      have m1 : 0 ≤ g.toInt * d := Int.mul_nonneg g0 (by omega)
      have m2 : g.toInt * d ≤ 5 * 6 := Int.mul_le_mul g5 (by omega) (by omega) (by omega)
      by_cases h : 2 * (q + 1) - p - r ≤ p + r
      · rw [if_pos ((on_le (by omega) (by omega)).mpr h)]
        refine ⟨_, rfl, ?_⟩
        rw [i_add (by rw [fin d hd, on_toI (by omega)]; omega) (by rw [fin d hd, on_toI (by omega)]; omega), fin d hd, on_toI (by omega)]; omega
      · rw [if_neg (fun z => h ((on_le (by omega) (by omega)).mp z))]
        refine ⟨_, rfl, ?_⟩
        rw [i_add (by rw [fin d hd, on_toI (by omega)]; omega) (by rw [fin d hd, on_toI (by omega)]; omega), fin d hd, on_toI (by omega)]; omega
    by_cases hji : j ≤ i
    · rw [if_pos ((on_le (by omega) (by omega)).mpr hji), if_pos hji, on_subI hji (by omega)]
      have := fin2 (i - j) (by omega)
      rw [show ((i - j : Nat) : Int) = (i : Int) - j by omega] at this
      exact this
    · rw [if_neg (fun z => hji ((on_le (by omega) (by omega)).mp z)), if_neg hji, on_subI (by omega) (by omega)]
      have := fin2 (j - i) (by omega)
      rw [show ((j - i : Nat) : Int) = (j : Int) - i by omega] at this
      exact this
/-! ===== the model's table of sets ===== -/
theorem of_shr10 : ∀ s : Nat, s < 1024 → ∀ i : Nat, i < 10 → ((Int32.ofNat s >>> (Int32.ofNat i &&& 31)) &&& 1) = if s.testBit i = true then 1 else 0 := by decide +kernel
theorem of_shl11 : ∀ i : Nat, i < 11 → (1 : Int32) <<< (Int32.ofNat i &&& 31) = Int32.ofNat (2 ^ i) := by decide
def PTS (la po : Nat → Int32) (n q : Nat) (pt : Nat → VX) : Prop := (∀ k, k < n → la k = Int32.ofNat (pt k).1 ∧ po k = Int32.ofNat (pt k).2 ∧ (pt k).1 ≤ 6 ∧ (pt k).2 ≤ q + 1) ∧ la n = Int32.ofNat 0 ∧ po n = Int32.ofNat 0
theorem dst_le {q : Nat} {g : Int} {a b : VX} (g0 : 0 ≤ g) (g5 : g ≤ 5) (hq8 : q ≤ 8) (ha : a.1 ≤ 6 ∧ a.2 ≤ q + 1) (hb : b.1 ≤ 6 ∧ b.2 ≤ q + 1) : 0 ≤ dst (q + 1) g a b ∧ dst (q + 1) g a b ≤ 100 := by
  refine ⟨dst_nn g0 ha.2 hb.2, ?_⟩
  unfold dst
  by_cases h : a.1 = b.1
  · rw [if_pos h]; split <;> omega
  · rw [if_neg h]
    have m : g * (if b.1 ≤ a.1 then (a.1 : Int) - b.1 else (b.1 : Int) - a.1) ≤ 5 * 6 := Int.mul_le_mul g5 (by split <;> omega) (by split <;> omega) (by omega)
    omega
theorem bt_pts {w la po : Nat → Int32} {M q n a b : Nat} {g : Int32} {v : Int64} {pt : Nat → VX} (hW : MW w M q g v) (hq8 : q ≤ 8) (g0 : 0 ≤ g.toInt) (g5 : g.toInt ≤ 5) (hn : n ≤ 10) (hP : PTS la po n q pt) (ha : a < n) (hb : b < n) : ∃ t, f_Y8_between (Int32.ofNat a) (Int32.ofNat b) w la po = some t ∧ t.toInt = dst (q + 1) g.toInt (pt a) (pt b) ∧ 0 ≤ t.toInt ∧ t.toInt ≤ 100 := by
  obtain ⟨a1, a2, a3, a4⟩ := hP.1 a ha
  obtain ⟨b1, b2, b3, b4⟩ := hP.1 b hb
  obtain ⟨t, t1, t2⟩ := n_between hW hq8 g0 g5 (by omega) (by omega) a1 a2 b1 b2 a3 b3 a4 b4
  have := dst_le (q := q) (a := pt a) (b := pt b) g0 g5 hq8 ⟨a3, a4⟩ ⟨b3, b4⟩
  exact ⟨t, t1, t2, by rw [t2]; exact this.1, by rw [t2]; exact this.2⟩
theorem bt_door {w la po : Nat → Int32} {M q n b : Nat} {g : Int32} {v : Int64} {pt : Nat → VX} (hW : MW w M q g v) (hq8 : q ≤ 8) (g0 : 0 ≤ g.toInt) (g5 : g.toInt ≤ 5) (hn : n ≤ 10) (hP : PTS la po n q pt) (hb : b < n) : (∃ t, f_Y8_between (Int32.ofNat n) (Int32.ofNat b) w la po = some t ∧ t.toInt = dst (q + 1) g.toInt (0, 0) (pt b) ∧ 0 ≤ t.toInt ∧ t.toInt ≤ 100) ∧ ∃ t, f_Y8_between (Int32.ofNat b) (Int32.ofNat n) w la po = some t ∧ t.toInt = dst (q + 1) g.toInt (pt b) (0, 0) ∧ 0 ≤ t.toInt ∧ t.toInt ≤ 100 := by
  obtain ⟨b1, b2, b3, b4⟩ := hP.1 b hb
  constructor
  · obtain ⟨t, t1, t2⟩ := n_between (a := n) (b := b) (i := 0) (p := 0) hW hq8 g0 g5 (by omega) (by omega) hP.2.1 hP.2.2 b1 b2 (by omega) b3 (by omega) b4
    have := dst_le (q := q) (a := (0, 0)) (b := pt b) g0 g5 hq8 ⟨by dsimp only; omega, by dsimp only; omega⟩ ⟨b3, b4⟩
    exact ⟨t, t1, t2, by rw [t2]; exact this.1, by rw [t2]; exact this.2⟩
  · obtain ⟨t, t1, t2⟩ := n_between (a := b) (b := n) (j := 0) (r := 0) hW hq8 g0 g5 (by omega) (by omega) b1 b2 hP.2.1 hP.2.2 b3 (by omega) b4 (by omega)
    have := dst_le (q := q) (a := pt b) (b := (0, 0)) g0 g5 hq8 ⟨b3, b4⟩ ⟨by dsimp only; omega, by dsimp only; omega⟩
    exact ⟨t, t1, t2, by rw [t2]; exact this.1, by rw [t2]; exact this.2⟩
theorem on_10 {s k : Nat} (hs : s < 1024) (hk : k < 10) : 10 * Int32.ofNat s + Int32.ofNat k = Int32.ofNat (10 * s + k) := by
  rw [show (10 : Int32) = Int32.ofNat 10 from rfl, on_mulI (by omega) (by omega) (by omega), on_addI (by omega)]
theorem z_far : (1000000000 : Int32).toInt = 1000000000 := by decide
theorem n_way {w la po c : Nat → Int32} {M q n s last : Nat} {g : Int32} {v : Int64} {pt : Nat → VX} (hW : MW w M q g v) (hq8 : q ≤ 8) (g0 : 0 ≤ g.toInt) (g5 : g.toInt ≤ 5) (hn : n ≤ 10) (hP : PTS la po n q pt) (hs : s < 2 ^ n) (hl : last < n) (hc : ∀ k, k < n → (dif s (2 ^ last)).testBit k = true → 0 ≤ (c (10 * dif s (2 ^ last) + k)).toInt ∧ (c (10 * dif s (2 ^ last) + k)).toInt ≤ 1000000000) :
    ∃ r, f_Y8_wayTo (Int32.ofNat s) (Int32.ofNat last) (Int32.ofNat n) w la po c = some r ∧ 0 ≤ r.toInt ∧ r.toInt ≤ 1000000000 ∧ (s.testBit last = true → (dif s (2 ^ last) = 0 → r.toInt ≤ dst (q + 1) g.toInt (0, 0) (pt last)) ∧ (∀ k, k < n → (dif s (2 ^ last)).testBit k = true → r.toInt ≤ (c (10 * dif s (2 ^ last) + k)).toInt + dst (q + 1) g.toInt (pt k) (pt last)) ∧
      (r.toInt < 1000000000 → (dif s (2 ^ last) = 0 ∧ r.toInt = dst (q + 1) g.toInt (0, 0) (pt last)) ∨ ∃ k, k < n ∧ (dif s (2 ^ last)).testBit k = true ∧ r.toInt = (c (10 * dif s (2 ^ last) + k)).toInt + dst (q + 1) g.toInt (pt k) (pt last))) := by
  have two : 2 ^ n ≤ 1024 := Nat.pow_le_pow_right (n := 2) (by decide) hn
  have zf := z_far
  have dl : dif s (2 ^ last) ≤ s := dif_le
  -- the loop over the set that is left
  have run : ∀ t0 : Int32, 0 ≤ t0.toInt → t0.toInt ≤ 1000000000 → ∃ b : Int32, f_Y8_wayTo_J36 (Int32.ofNat last) (Int32.ofNat n) (Int32.ofNat (dif s (2 ^ last))) t0 w la po c = some b ∧ 0 ≤ b.toInt ∧ b.toInt ≤ t0.toInt ∧ (∀ k, k < n → (dif s (2 ^ last)).testBit k = true → b.toInt ≤ (c (10 * dif s (2 ^ last) + k)).toInt + dst (q + 1) g.toInt (pt k) (pt last)) ∧
      (b = t0 ∨ b.toInt = 1000000000 ∨ ∃ k, k < n ∧ (dif s (2 ^ last)).testBit k = true ∧ b.toInt = (c (10 * dif s (2 ^ last) + k)).toInt + dst (q + 1) g.toInt (pt k) (pt last)) := fun t0 t1 t2 => by
    generalize dif s (2 ^ last) = e at *
    have he : e < 1024 := by omega
    generalize hF : (1000000000 : Int32) = FAR at *
    obtain ⟨b, q1, q2⟩ := lp_one (f := fun z : Int32 × Int32 => f_Y8_wayTo_L41 (Int32.ofNat last) (Int32.ofNat n) (Int32.ofNat e) w la po c z.1 z.2)
      (fun z => ∃ m : Nat, z.2 = Int32.ofNat m ∧ m ≤ n ∧ 0 ≤ z.1.toInt ∧ z.1.toInt ≤ t0.toInt ∧ (∀ k, k < m → e.testBit k = true → z.1.toInt ≤ (c (10 * e + k)).toInt + dst (q + 1) g.toInt (pt k) (pt last)) ∧ (z.1 = t0 ∨ z.1.toInt = 1000000000 ∨ ∃ k, k < n ∧ e.testBit k = true ∧ z.1.toInt = (c (10 * e + k)).toInt + dst (q + 1) g.toInt (pt k) (pt last)))
      (fun b => 0 ≤ b.toInt ∧ b.toInt ≤ t0.toInt ∧ (∀ k, k < n → e.testBit k = true → b.toInt ≤ (c (10 * e + k)).toInt + dst (q + 1) g.toInt (pt k) (pt last)) ∧ (b = t0 ∨ b.toInt = 1000000000 ∨ ∃ k, k < n ∧ e.testBit k = true ∧ b.toInt = (c (10 * e + k)).toInt + dst (q + 1) g.toInt (pt k) (pt last))) (fun z => msr z.2 11) (by
      rintro ⟨b, m'⟩ ⟨m, m1, m2, m3, m4, m5, m6⟩
      dsimp only at m1 m3 m4 m5 m6
      subst m1
      unfold f_Y8_wayTo_L41 f_Y8_wayTo_L41_J84 f_Y8_wayTo_L41_J100
      dsimp only
      rw [hF]
      by_cases em : m = n
      · right
        subst em
        rw [if_pos (Int32.le_refl _)]
        exact ⟨_, rfl, m3, m4, m5, m6⟩
      · left
        have mm : msr (Int32.ofNat m + 1) 11 < msr (Int32.ofNat m) 11 := msr_lt ((on_lt (k := m) (m := 11) (by omega) (by omega)).mpr (by omega))
        rw [if_neg (fun z => absurd ((on_le (k := n) (m := m) (by omega) (by omega)).mp z) (by omega)), of_shr10 e he m (by omega), on_inc]
        rw [on_inc] at mm
        have key : ∀ x : Int32, 0 ≤ x.toInt → (e.testBit m = true → x.toInt = (c (10 * e + m)).toInt + dst (q + 1) g.toInt (pt m) (pt last)) → (e.testBit m = false → x.toInt = 1000000000) →
            ∃ s', (if b ≤ x then some (Sum.inl (b, Int32.ofNat (m + 1))) else some (Sum.inl (x, Int32.ofNat (m + 1)))) = some (Sum.inl s' : (Int32 × Int32) ⊕ Int32) ∧ (∃ m : Nat, s'.2 = Int32.ofNat m ∧ m ≤ n ∧ 0 ≤ s'.1.toInt ∧ s'.1.toInt ≤ t0.toInt ∧ (∀ k, k < m → e.testBit k = true → s'.1.toInt ≤ (c (10 * e + k)).toInt + dst (q + 1) g.toInt (pt k) (pt last)) ∧ (s'.1 = t0 ∨ s'.1.toInt = 1000000000 ∨ ∃ k, k < n ∧ e.testBit k = true ∧ s'.1.toInt = (c (10 * e + k)).toInt + dst (q + 1) g.toInt (pt k) (pt last))) ∧ msr s'.2 11 < msr (Int32.ofNat m) 11 := fun x x0 x1 x2 => by
          by_cases hb : b ≤ x
          · rw [if_pos hb]
            rw [i_le] at hb
            refine ⟨_, rfl, ⟨m + 1, rfl, by omega, m3, m4, fun k hk hk2 => ?_, m6⟩, mm⟩
            dsimp only
            by_cases ek : k = m
            · rw [ek] at hk2 ⊢; rw [← x1 hk2]; exact hb
            · exact m5 k (by omega) hk2
          · rw [if_neg hb]
            rw [i_le] at hb
            refine ⟨_, rfl, ⟨m + 1, rfl, by omega, x0, by dsimp only; omega, fun k hk hk2 => ?_, ?_⟩, mm⟩
            · dsimp only
              by_cases ek : k = m
              · rw [ek] at hk2 ⊢; rw [← x1 hk2]; exact Int.le_refl _
              · have := m5 k (by omega) hk2; omega
            · dsimp only
              cases hbm : e.testBit m with
              | true => exact Or.inr (Or.inr ⟨m, by omega, hbm, x1 hbm⟩)
              | false => exact Or.inr (Or.inl (x2 hbm))
        cases hbm : e.testBit m with
        | true =>
          obtain ⟨t, b1, b2, b3, b4⟩ := bt_pts hW hq8 g0 g5 hn hP (show m < n by omega) hl
          obtain ⟨c1, c2⟩ := hc m (by omega) hbm
          have ix1 : 10 * Int32.ofNat e + Int32.ofNat m = Int32.ofNat (10 * e + m) := on_10 he (by omega)
          have sum : (c (10 * e + m) + t).toInt = (c (10 * e + m)).toInt + t.toInt := i_add (by omega) (by omega)
          rw [if_pos rfl, if_pos rfl, ix1, gd_10240 (on_k (by omega)).2.2 ((on_lt (k := 10 * e + m) (m := 10240) (by omega) (by omega)).mpr (by omega)), b1, bnd1_s, (on_k (show 10 * e + m < 100000 by omega)).1]
          exact key _ (by rw [sum]; omega) (fun _ => by rw [sum, b2]) (fun z => absurd (hbm.symm.trans z) (by decide))
        | false =>
          rw [if_neg (show ¬ (false = true) by decide), if_neg (show ¬ (0 : Int32) = 1 by decide)]
          exact key _ (by rw [zf]; omega) (fun z => absurd (hbm.symm.trans z) (by decide)) (fun _ => zf)) fu (t0, 0) ⟨0, rfl, by omega, t1, Int.le_refl _, fun k hk => by omega, Or.inl rfl⟩ (msr_fu (by dsimp only; decide) (by decide))
    refine ⟨b, ?_, q2⟩
    unfold f_Y8_wayTo_J36
    rw [q1, bnd1_s]
  unfold f_Y8_wayTo
  rw [of_shr10 s (by omega) last (by omega), of_shl11 last (by omega), of_dif]
  cases hb : s.testBit last with
  | false =>
    rw [if_neg (show ¬ (false = true) by decide), if_pos rfl]
    exact ⟨_, rfl, by rw [zf]; omega, by rw [zf]; omega, fun z => absurd z (by decide)⟩
  | true =>
    rw [if_pos rfl, if_neg one_ne]
    have ez : Int32.ofNat (dif s (2 ^ last)) = 0 ↔ dif s (2 ^ last) = 0 := by
      constructor
      · intro z
        have := congrArg Int32.toInt z
        rw [on_toI (by omega), show (0 : Int32).toInt = 0 from rfl] at this
        omega
      · intro z; rw [z]; rfl
    by_cases e0 : dif s (2 ^ last) = 0
    · rw [if_pos (ez.mpr e0)]
      obtain ⟨t, b1, b2, b3, b4⟩ := (bt_door hW hq8 g0 g5 hn hP hl).1
      obtain ⟨b, r1, r2, r3, r4, r5⟩ := run t b3 (by omega)
      rw [b1, bnd1_s, r1]
      refine ⟨b, rfl, r2, by omega, fun _ => ⟨fun _ => by rw [← b2]; exact r3, r4, fun hlt => ?_⟩⟩
      rcases r5 with y | y | y
      · exact Or.inl ⟨e0, by rw [y, b2]⟩
      · omega
      · exact Or.inr y
    · rw [if_neg (fun z => e0 (ez.mp z))]
      obtain ⟨b, r1, r2, r3, r4, r5⟩ := run 1000000000 (by rw [zf]; omega) (by rw [zf]; omega)
      rw [r1]
      rw [zf] at r3
      refine ⟨b, rfl, r2, r3, fun _ => ⟨fun z => absurd z e0, r4, fun hlt => ?_⟩⟩
      rcases r5 with y | y | y
      · rw [y, zf] at hlt; omega
      · omega
      · exact Or.inr y
def LOC (L n : Nat) (g : Int) (pt : Nat → VX) (T : Nat → Nat → Int) (s last : Nat) : Prop := 0 ≤ T s last ∧ T s last ≤ 1000000000 ∧ (s.testBit last = true → (dif s (2 ^ last) = 0 → T s last ≤ dst L g (0, 0) (pt last)) ∧ (∀ k, k < n → (dif s (2 ^ last)).testBit k = true → T s last ≤ T (dif s (2 ^ last)) k + dst L g (pt k) (pt last)) ∧
  (T s last < 1000000000 → (dif s (2 ^ last) = 0 ∧ T s last = dst L g (0, 0) (pt last)) ∨ ∃ k, k < n ∧ (dif s (2 ^ last)).testBit k = true ∧ T s last = T (dif s (2 ^ last)) k + dst L g (pt k) (pt last)))
abbrev TT2 (c : Nat → Int32) : Nat → Nat → Int := fun s k => (c (10 * s + k)).toInt
theorem LOC_upd {L n s m s' l : Nat} {g : Int} {pt : Nat → VX} {c : Nat → Int32} {r : Int32} (hn : n ≤ 10) (hs : s < 1024) (hm : m < n) (hl : l < n) (h1 : s' < s ∨ (s' = s ∧ l < m)) (h : LOC L n g pt (TT2 c) s' l) : LOC L n g pt (TT2 (upd c (10 * s + m) r)) s' l := by
  have e1 : TT2 (upd c (10 * s + m) r) s' l = TT2 c s' l := by
    show (upd c (10 * s + m) r (10 * s' + l)).toInt = _
    rw [upd_of (by omega)]
  have s'32 : s' < 4294967296 := by omega
  have e2 : ∀ k, k < n → s'.testBit l = true → TT2 (upd c (10 * s + m) r) (dif s' (2 ^ l)) k = TT2 c (dif s' (2 ^ l)) k := fun k hk hb => by
    have := dif_lt s'32 (p2_sub hb) (p2_ne l)
    show (upd c (10 * s + m) r (10 * dif s' (2 ^ l) + k)).toInt = _
    rw [upd_of (by omega)]
  obtain ⟨a, b, d⟩ := h
  unfold LOC
  rw [e1]
  refine ⟨a, b, fun hb => ?_⟩
  obtain ⟨d1, d2, d3⟩ := d hb
  refine ⟨d1, fun k hk hk2 => by rw [e2 k hk hb]; exact d2 k hk hk2, fun hlt => ?_⟩
  rcases d3 hlt with y | ⟨k, y1, y2, y3⟩
  · exact Or.inl y
  · exact Or.inr ⟨k, y1, y2, by rw [e2 k y1 hb]; exact y3⟩
theorem n_row {w la po c : Nat → Int32} {M q n s : Nat} {g n2 : Int32} {v : Int64} {pt : Nat → VX} (hW : MW w M q g v) (hq8 : q ≤ 8) (g0 : 0 ≤ g.toInt) (g5 : g.toInt ≤ 5) (hn : n ≤ 10) (hP : PTS la po n q pt) (hs : s < 2 ^ n) (hc : ∀ s', 1 ≤ s' → s' < s → ∀ l, l < n → LOC (q + 1) n g.toInt pt (TT2 c) s' l) :
    ∃ c', loop (fun z : Int32 × (Nat → Int32) => f_Y8_leastWay_L93 (Int32.ofNat n) n2 (Int32.ofNat s) w la po z.1 z.2) fu (0, c) = some c' ∧ ∀ s', 1 ≤ s' → s' < s + 1 → ∀ l, l < n → LOC (q + 1) n g.toInt pt (TT2 c') s' l := by
  have two : 2 ^ n ≤ 1024 := Nat.pow_le_pow_right (n := 2) (by decide) hn
  refine lp_one (f := fun z : Int32 × (Nat → Int32) => f_Y8_leastWay_L93 (Int32.ofNat n) n2 (Int32.ofNat s) w la po z.1 z.2) (fun z => ∃ m : Nat, z.1 = Int32.ofNat m ∧ m ≤ n ∧ (∀ s', 1 ≤ s' → s' < s → ∀ l, l < n → LOC (q + 1) n g.toInt pt (TT2 z.2) s' l) ∧ ∀ l, l < m → LOC (q + 1) n g.toInt pt (TT2 z.2) s l) _ (fun z => msr z.1 11) ?_ fu (0, c) ⟨0, rfl, by omega, hc, fun l hl => by omega⟩ (msr_fu (by dsimp only; decide) (by decide))
  rintro ⟨a, c⟩ ⟨m, m1, m2, m3, m4⟩
  dsimp only at m1 m3 m4
  subst m1
  unfold f_Y8_leastWay_L93
  dsimp only
  by_cases em : m = n
  · right
    subst em
    rw [if_pos (Int32.le_refl _)]
    refine ⟨_, rfl, fun s' h1 h2 l hl => ?_⟩
    by_cases e : s' = s
    · rw [e]; exact m4 l hl
    · exact m3 s' h1 (by omega) l hl
  · left
    have mn : m < n := by omega
    have mm : msr (Int32.ofNat m + 1) 11 < msr (Int32.ofNat m) 11 := msr_lt ((on_lt (k := m) (m := 11) (by omega) (by omega)).mpr (by omega))
    have dl : dif s (2 ^ m) ≤ s := dif_le
    have s32 : s < 4294967296 := by omega
    have rest1 : ∀ k, (dif s (2 ^ m)).testBit k = true → 1 ≤ dif s (2 ^ m) := fun k hk => by
      apply Classical.byContradiction
      intro z
      rw [show dif s (2 ^ m) = 0 by omega] at hk
      simp at hk
    have nb : ∀ k, (dif s (2 ^ m)).testBit k = true → s.testBit m = true ∨ dif s (2 ^ m) = s := fun k hk => by
      cases hb : s.testBit m with
      | true => exact Or.inl rfl
      | false =>
        right
        apply Nat.eq_of_testBit_eq
        intro i
        rw [dif_bit s32, p2_bit]
        by_cases e : m = i
        · subst e; rw [hb]; simp
        · simp [e]
    obtain ⟨r, w1, w2, w3, w4⟩ : ∃ r, f_Y8_wayTo (Int32.ofNat s) (Int32.ofNat m) (Int32.ofNat n) w la po c = some r ∧ 0 ≤ r.toInt ∧ r.toInt ≤ 1000000000 ∧ (s.testBit m = true → (dif s (2 ^ m) = 0 → r.toInt ≤ dst (q + 1) g.toInt (0, 0) (pt m)) ∧ (∀ k, k < n → (dif s (2 ^ m)).testBit k = true → r.toInt ≤ (c (10 * dif s (2 ^ m) + k)).toInt + dst (q + 1) g.toInt (pt k) (pt m)) ∧
        (r.toInt < 1000000000 → (dif s (2 ^ m) = 0 ∧ r.toInt = dst (q + 1) g.toInt (0, 0) (pt m)) ∨ ∃ k, k < n ∧ (dif s (2 ^ m)).testBit k = true ∧ r.toInt = (c (10 * dif s (2 ^ m) + k)).toInt + dst (q + 1) g.toInt (pt k) (pt m))) := by
      cases hb : s.testBit m with
      | true =>
        have lt := dif_lt s32 (p2_sub hb) (p2_ne m)
        obtain ⟨r, w1, w2, w3, w4⟩ := n_way (c := c) hW hq8 g0 g5 hn hP hs mn (fun k hk hk2 => by
          have := m3 _ (rest1 k hk2) lt k hk
          exact ⟨this.1, this.2.1⟩)
        exact ⟨r, w1, w2, w3, fun _ => w4 hb⟩
      | false =>
        refine ⟨1000000000, ?_, by rw [z_far]; omega, by rw [z_far]; omega, fun z => absurd z (by decide)⟩
        unfold f_Y8_wayTo
        rw [of_shr10 s (by omega) m (by omega), hb, if_neg (show ¬ (false = true) by decide), if_pos rfl]
    rw [if_neg (fun z => absurd ((on_le (k := n) (m := m) (by omega) (by omega)).mp z) (by omega)), w1, bnd1_s, on_10 (by omega) (by omega), gd_10240 (on_k (by omega)).2.2 ((on_lt (k := 10 * s + m) (m := 10240) (by omega) (by omega)).mpr (by omega)), (on_k (show 10 * s + m < 100000 by omega)).1]
    rw [on_inc] at mm ⊢
    refine ⟨_, rfl, ⟨m + 1, rfl, by omega, fun s' h1 h2 l hl => LOC_upd hn (by omega) mn hl (Or.inl h2) (m3 s' h1 h2 l hl), fun l hl => ?_⟩, mm⟩
    by_cases el : l = m
    · subst el
      dsimp only
      have e1 : TT2 (upd c (10 * s + l) r) s l = r.toInt := by
        show (upd c (10 * s + l) r (10 * s + l)).toInt = _
        rw [upd_eq]
      have e2 : ∀ k, k < n → s.testBit l = true → TT2 (upd c (10 * s + l) r) (dif s (2 ^ l)) k = (c (10 * dif s (2 ^ l) + k)).toInt := fun k hk hb => by
        have := dif_lt s32 (p2_sub hb) (p2_ne l)
        show (upd c (10 * s + l) r (10 * dif s (2 ^ l) + k)).toInt = _
        rw [upd_of (by omega)]
      unfold LOC
      rw [e1]
      refine ⟨w2, w3, fun hb => ?_⟩
      obtain ⟨d1, d2, d3⟩ := w4 hb
      refine ⟨d1, fun k hk hk2 => by rw [e2 k hk hb]; exact d2 k hk hk2, fun hlt => ?_⟩
      rcases d3 hlt with y | ⟨k, y1, y2, y3⟩
      · exact Or.inl y
      · exact Or.inr ⟨k, y1, y2, by rw [e2 k y1 hb]; exact y3⟩
    · exact LOC_upd hn (by omega) mn (by omega) (Or.inr ⟨rfl, by omega⟩) (m4 l (by omega))
theorem n_table {w la po c : Nat → Int32} {M q n : Nat} {g : Int32} {v : Int64} {pt : Nat → VX} (hW : MW w M q g v) (hq8 : q ≤ 8) (g0 : 0 ≤ g.toInt) (g5 : g.toInt ≤ 5) (hn : n ≤ 10) (hP : PTS la po n q pt) :
    ∃ c', loop (fun z : Int32 × (Nat → Int32) => f_Y8_leastWay_L85 (Int32.ofNat n) (Int32.ofNat (2 ^ n - 1)) w la po z.1 z.2) fu (1, c) = some c' ∧ ∀ s', 1 ≤ s' → s' < 2 ^ n → ∀ l, l < n → LOC (q + 1) n g.toInt pt (TT2 c') s' l := by
  have two : 2 ^ n ≤ 1024 := Nat.pow_le_pow_right (n := 2) (by decide) hn
  have tp := Nat.two_pow_pos n
  refine lp_one (f := fun z : Int32 × (Nat → Int32) => f_Y8_leastWay_L85 (Int32.ofNat n) (Int32.ofNat (2 ^ n - 1)) w la po z.1 z.2) (fun z => ∃ s : Nat, z.1 = Int32.ofNat s ∧ s ≤ 2 ^ n ∧ ∀ s', 1 ≤ s' → s' < s → ∀ l, l < n → LOC (q + 1) n g.toInt pt (TT2 z.2) s' l) _ (fun z => msr z.1 1025) ?_ fu (1, c) ⟨1, rfl, by omega, fun s' h1 h2 => by omega⟩ (msr_fu (by dsimp only; decide) (by decide))
  rintro ⟨a, c⟩ ⟨s, m1, m2, m3⟩
  dsimp only at m1 m3
  subst m1
  unfold f_Y8_leastWay_L85
  dsimp only
  by_cases em : s = 2 ^ n
  · right
    subst em
    rw [if_pos ((on_lt (by omega) (by omega)).mpr (by omega))]
    exact ⟨_, rfl, m3⟩
  · left
    have mm : msr (Int32.ofNat s + 1) 1025 < msr (Int32.ofNat s) 1025 := msr_lt ((on_lt (k := s) (m := 1025) (by omega) (by omega)).mpr (by omega))
    obtain ⟨c', r1, r2⟩ := n_row (n2 := Int32.ofNat (2 ^ n - 1)) (s := s) hW hq8 g0 g5 hn hP (by omega) m3
    rw [if_neg (fun z => absurd ((on_lt (k := 2 ^ n - 1) (m := s) (by omega) (by omega)).mp z) (by omega)), r1, bnd1_s]
    rw [on_inc] at mm ⊢
    exact ⟨_, rfl, ⟨s + 1, rfl, by omega, r2⟩, mm⟩
theorem n_best {w la po c : Nat → Int32} {M q n : Nat} {g : Int32} {v : Int64} {pt : Nat → VX} (hW : MW w M q g v) (hq8 : q ≤ 8) (g0 : 0 ≤ g.toInt) (g5 : g.toInt ≤ 5) (hn0 : 1 ≤ n) (hn : n ≤ 10) (hP : PTS la po n q pt) (hc : ∀ l, l < n → 0 ≤ TT2 c (2 ^ n - 1) l ∧ TT2 c (2 ^ n - 1) l ≤ 1000000000) :
    ∃ b, loop (fun z : Int32 × Int32 => f_Y8_leastWay_L137 (Int32.ofNat n) (Int32.ofNat (2 ^ n - 1)) w la po c z.1 z.2) fu (1000000000, 0) = some b ∧ (∀ l, l < n → b.toInt ≤ TT2 c (2 ^ n - 1) l + dst (q + 1) g.toInt (pt l) (0, 0)) ∧ (b.toInt < 1000000000 → ∃ l, l < n ∧ b.toInt = TT2 c (2 ^ n - 1) l + dst (q + 1) g.toInt (pt l) (0, 0)) := by
  have two : 2 ^ n ≤ 1024 := Nat.pow_le_pow_right (n := 2) (by decide) hn
  have tp := Nat.two_pow_pos n
  have zf := z_far
  generalize (1000000000 : Int32) = FAR at *
  refine lp_one (f := fun z : Int32 × Int32 => f_Y8_leastWay_L137 (Int32.ofNat n) (Int32.ofNat (2 ^ n - 1)) w la po c z.1 z.2) (fun z => ∃ m : Nat, z.2 = Int32.ofNat m ∧ m ≤ n ∧ (∀ l, l < m → z.1.toInt ≤ TT2 c (2 ^ n - 1) l + dst (q + 1) g.toInt (pt l) (0, 0)) ∧ (z.1.toInt < 1000000000 → ∃ l, l < n ∧ z.1.toInt = TT2 c (2 ^ n - 1) l + dst (q + 1) g.toInt (pt l) (0, 0))) _ (fun z => msr z.2 11) ?_ fu (FAR, 0) ⟨0, rfl, by omega, fun l hl => by omega, fun z => by dsimp only at z; omega⟩ (msr_fu (by dsimp only; decide) (by decide))
  rintro ⟨b, m'⟩ ⟨m, m1, m2, m3, m4⟩
  dsimp only at m1 m3 m4
  subst m1
  unfold f_Y8_leastWay_L137 f_Y8_leastWay_L137_J177
  dsimp only
  by_cases em : m = n
  · right
    subst em
    rw [if_pos (Int32.le_refl _)]
    exact ⟨_, rfl, m3, m4⟩
  · left
    have mm : msr (Int32.ofNat m + 1) 11 < msr (Int32.ofNat m) 11 := msr_lt ((on_lt (k := m) (m := 11) (by omega) (by omega)).mpr (by omega))
    obtain ⟨t, b1, b2, b3, b4⟩ := (bt_door hW hq8 g0 g5 hn hP (show m < n by omega)).2
    have cm := hc m (by omega)
    have sum : (c (10 * (2 ^ n - 1) + m) + t).toInt = TT2 c (2 ^ n - 1) m + t.toInt := i_add (by show _ ≤ TT2 c (2 ^ n - 1) m + t.toInt; omega) (by show TT2 c (2 ^ n - 1) m + t.toInt ≤ _; omega)
    rw [if_neg (fun z => absurd ((on_le (k := n) (m := m) (by omega) (by omega)).mp z) (by omega)), on_10 (by omega) (by omega), gd_10240 (on_k (by omega)).2.2 ((on_lt (k := 10 * (2 ^ n - 1) + m) (m := 10240) (by omega) (by omega)).mpr (by omega)), b1, bnd1_s, (on_k (show 10 * (2 ^ n - 1) + m < 100000 by omega)).1]
    rw [on_inc] at mm ⊢
    by_cases hb : b ≤ c (10 * (2 ^ n - 1) + m) + t
    · rw [if_pos hb]
      rw [i_le, sum] at hb
      refine ⟨_, rfl, ⟨m + 1, rfl, by omega, fun l hl => ?_, m4⟩, mm⟩
      dsimp only
      by_cases el : l = m
      · rw [el, ← b2]; exact hb
      · exact m3 l (by omega)
    · rw [if_neg hb]
      rw [i_le, sum] at hb
      refine ⟨_, rfl, ⟨m + 1, rfl, by omega, fun l hl => ?_, fun _ => ⟨m, by omega, by dsimp only; rw [sum, b2]⟩⟩, mm⟩
      dsimp only
      rw [sum]
      by_cases el : l = m
      · rw [el, ← b2]; exact Int.le_refl _
      · have := m3 l (by omega); omega
theorem n_leastWay {w lane position least : Nat → Int32} {M q : Nat} {g : Int32} {v : Int64} (hW : MW w M q g v) (hM : M * q ≤ 48) (hM6 : M ≤ 6) (hq : 1 ≤ q) (hq8 : q ≤ 8) (g0 : 0 ≤ g.toInt) (g5 : g.toInt ≤ 5) (hc0 : 1 ≤ cn v (M * q)) (hc : cn v (M * q) ≤ 10) :
    ∃ b la po c pt, f_Y8_leastWay w lane position least = some (b, la, po, c) ∧ (∀ j, j < M * q → PB v j → pt (cn v j) = (j / q, j % q + 1)) ∧ HK (q + 1) (cn v (M * q)) g.toInt pt (TT2 c) b.toInt := by
  obtain ⟨la, po, p1, p2⟩ := n_points (lane := lane) (position := position) (least := least) hW hM hM6 hq hq8 hc
  have zz : (0 : Int32) = Int32.ofNat 0 := rfl
  let pt : Nat → VX := fun k => ((la k).toInt.toNat, (po k).toInt.toNat)
  have ptj : ∀ j, j < M * q → PB v j → pt (cn v j) = (j / q, j % q + 1) := fun j hj pj => by
    obtain ⟨x1, x2⟩ := p2 j hj pj
    have d1 := Nat.div_le_self j q
    have d2 := Nat.mod_lt j (show 0 < q by omega)
    show ((la (cn v j)).toInt.toNat, (po (cn v j)).toInt.toNat) = _
    rw [x1, x2, on_toI (by omega), on_toI (by omega), Int.toNat_natCast, Int.toNat_natCast]
  generalize hn : cn v (M * q) = n at *
  have tn : (Int32.ofNat n).toNatClampNeg = n := (on_k (by omega)).1
  have P : PTS (upd la n 0) (upd po n 0) n q pt := by
    refine ⟨fun k hk => ?_, by rw [upd_eq]; exact zz, by rw [upd_eq]; exact zz⟩
    obtain ⟨j, j1, j2, j3⟩ := cn_surj (v := v) (M * q) k (by omega)
    obtain ⟨x1, x2⟩ := p2 j j1 j2
    have e := ptj j j1 j2
    rw [j3] at x1 x2 e
    have d1 : j / q < M := Nat.div_lt_of_lt_mul (by rw [Nat.mul_comm]; exact j1)
    have d2 := Nat.mod_lt j (show 0 < q by omega)
    rw [upd_of (by omega), upd_of (by omega), e]
    exact ⟨x1, x2, by dsimp only; omega, by dsimp only; omega⟩
  obtain ⟨c, t1, t2⟩ := n_table (c := least) hW hq8 g0 g5 hc P
  have tp := Nat.two_pow_pos n
  have two : 2 ^ n ≤ 1024 := Nat.pow_le_pow_right (n := 2) (by decide) hc
  have two1 : 2 ≤ 2 ^ n := Nat.pow_le_pow_right (n := 2) (i := 1) (j := n) (by decide) hc0
  obtain ⟨b, b1, b2, b3⟩ := n_best (c := c) hW hq8 g0 g5 hc0 hc P (fun l hl => by
    have := t2 (2 ^ n - 1) (by omega) (by omega) l hl
    exact ⟨this.1, this.2.1⟩)
  refine ⟨b, upd la n 0, upd po n 0, c, pt, ?_, ptj, ⟨fun s last hs hl hb => ?_, fun s last hs hl hb hlt => ?_, b2, b3⟩⟩
  · unfold f_Y8_leastWay
    have gi : ∀ {α : Type} {t : Option α}, gd (Int32.ofNat n) 11 t = t := fun {α t} => gd_11 (on_k (by omega)).2.2 ((on_lt (k := n) (m := 11) (by omega) (by omega)).mpr (by omega))
    have nz : ¬ Int32.ofNat n = 0 := fun z => by
      have := congrArg Int32.toInt z
      rw [on_toI (by omega), show (0 : Int32).toInt = 0 from rfl] at this
      omega
    have e1 : Int32.ofNat (2 ^ n) - 1 = Int32.ofNat (2 ^ n - 1) := by
      rw [show (1 : Int32) = Int32.ofNat 1 from rfl, on_subI (by omega) (by omega)]
    rw [p1, bnd3_s, gi, gi, if_neg nz, of_shl11 n (by omega), e1, tn, t1, bnd1_s, b1, bnd1_s]
  · have s1 : 1 ≤ s := by
      apply Classical.byContradiction
      intro z
      rw [show s = 0 by omega] at hb
      simp at hb
    obtain ⟨d1, d2, -⟩ := (t2 s s1 hs last hl).2.2 hb
    exact ⟨d1, d2⟩
  · have s1 : 1 ≤ s := by
      apply Classical.byContradiction
      intro z
      rw [show s = 0 by omega] at hb
      simp at hb
    exact ((t2 s s1 hs last hl).2.2 hb).2.2 hlt
/-! ===== both ways by rule, and the least one ===== -/
/-- the deepest place of a lane -/
def dpf (v : Int64) (q i : Nat) : Nat := (lkf v q i).1.toNat
def DP (v : Int64) (q i d : Nat) : Prop := d ≤ q ∧ (∀ p, LPk v q i p → p ≤ d) ∧ (d = 0 ∨ LPk v q i d)
theorem DP_uniq {v : Int64} {q i d e : Nat} (h : DP v q i d) (k : DP v q i e) : d = e := by
  obtain ⟨-, h2, h3⟩ := h
  obtain ⟨-, k2, k3⟩ := k
  rcases h3 with y | y
  · rcases k3 with z | z
    · rw [y, z]
    · have := h2 e z; omega
  · have := k2 d y
    rcases k3 with z | z
    · omega
    · have := h2 e z; omega
theorem dp_at {v : Int64} {i q : Nat} (hq : 1 ≤ q) (hq8 : q ≤ 8) (hk : i * q + q ≤ 48) : DP v q i (dpf v q i) ∧ ∀ d0 s0 w0, ∃ sh wd, f_X3_look (Int32.ofNat i) d0 s0 w0 (Int32.ofNat q) v = some (Int32.ofNat (dpf v q i), sh, wd) := by
  obtain ⟨d, sh, wd, l1, l2, -, -, -, -, dn, l7, l8, l9, l10⟩ := lk_at (v := v) (i := i) hq hq8 hk
  have e : dpf v q i = dn := by
    unfold dpf
    rw [l2]
    show d.toInt.toNat = dn
    rw [l7, on_toI (by omega)]; omega
  rw [e]
  exact ⟨⟨l8, l9, l10⟩, fun d0 s0 w0 => ⟨sh, wd, by rw [l1, l7]⟩⟩
theorem n_deep {w : Nat → Int32} {M q i : Nat} {g : Int32} {v : Int64} (hW : MW w M q g v) (hM : M * q ≤ 48) (hM6 : M ≤ 6) (hq : 1 ≤ q) (hq8 : q ≤ 8) (hi : i < M) : f_Y8_deepest (Int32.ofNat i) w = some (Int32.ofNat (dpf v q i)) := by
  have hk := lane_in hi hM
  obtain ⟨e, q1, m, q2, q3⟩ := lp_one (f := fun z : Int32 × Int32 => f_Y8_deepest_L4 (Int32.ofNat i) w z.1 z.2) (fun z => ∃ m k : Nat, z = (Int32.ofNat m, Int32.ofNat k) ∧ k ≤ M * q ∧ m ≤ q ∧ (∀ j, j < k → PB v j → j / q = i → j % q + 1 ≤ m) ∧ (m = 0 ∨ ∃ j, j < k ∧ PB v j ∧ j / q = i ∧ m = j % q + 1))
    (fun e => ∃ m : Nat, e = Int32.ofNat m ∧ m ≤ q ∧ (∀ j, j < M * q → PB v j → j / q = i → j % q + 1 ≤ m) ∧ (m = 0 ∨ ∃ j, j < M * q ∧ PB v j ∧ j / q = i ∧ m = j % q + 1)) (fun z => msr z.2 49) (by
    rintro ⟨a, b⟩ ⟨m, k, h0, h1, h2, h3, h4⟩
    cases h0
    dsimp only
    unfold f_Y8_deepest_L4 f_Y8_deepest_L4_J52 f_Y8_deepest_L4_J53
    rw [n_plc hW hM hM6 hq8, bnd1_s]
    by_cases e : k = M * q
    · right
      subst e
      rw [if_pos (Int32.le_refl _)]
      exact ⟨_, rfl, m, rfl, h2, h3, h4⟩
    · left
      have mm : msr (Int32.ofNat k + 1) 49 < msr (Int32.ofNat k) 49 := msr_lt ((on_lt (k := k) (m := 49) (by omega) (by omega)).mpr (by omega))
      obtain ⟨l1, l2⟩ := n_lane hW hq hq8 (show k < 48 by omega)
      have d1 := Nat.div_le_self k q
      have d2 := Nat.mod_lt k (show 0 < q by omega)
      rw [if_neg (fun z => absurd ((on_le (k := M * q) (m := k) (by omega) (by omega)).mp z) (by omega)), on_159 (by omega), gd_2450 (on_k (by omega)).2.2 ((on_lt (k := 159 + k) (m := 2450) (by omega) (by omega)).mpr (by omega)), (on_k (show 159 + k < 100000 by omega)).1, hW.2.2.2.1 k (by omega), on_inc]
      rw [on_inc] at mm
      have keep : (PB v k → k / q = i → k % q + 1 ≤ m) → ∃ s', some (Sum.inl (Int32.ofNat m, Int32.ofNat (k + 1)) : (Int32 × Int32) ⊕ Int32) = some (Sum.inl s') ∧ (∃ m k : Nat, s' = (Int32.ofNat m, Int32.ofNat k) ∧ k ≤ M * q ∧ m ≤ q ∧ (∀ j, j < k → PB v j → j / q = i → j % q + 1 ≤ m) ∧ (m = 0 ∨ ∃ j, j < k ∧ PB v j ∧ j / q = i ∧ m = j % q + 1)) ∧ msr s'.2 49 < msr (Int32.ofNat k) 49 := fun hh => by
        refine ⟨_, rfl, ⟨m, k + 1, rfl, by omega, h2, fun j hj pj ej => ?_, ?_⟩, mm⟩
        · by_cases e2 : j = k
          · rw [e2] at pj ej ⊢; exact hh pj ej
          · exact h3 j (by omega) pj ej
        · rcases h4 with y | ⟨j, y1, y2⟩
          · exact Or.inl y
          · exact Or.inr ⟨j, by omega, y2⟩
      by_cases hp : PB v k
      · rw [if_pos hp, if_pos rfl, l1, bnd1_s, l2]
        by_cases hl : k / q = i
        · rw [if_pos (by rw [hl]), bnd1_s]
          by_cases hle : k % q + 1 ≤ m
          · rw [if_pos ((on_le (by omega) (by omega)).mpr hle)]
            exact keep fun _ _ => hle
          · rw [if_neg (fun z => hle ((on_le (by omega) (by omega)).mp z)), bnd1_s]
            refine ⟨_, rfl, ⟨k % q + 1, k + 1, rfl, by omega, by omega, fun j hj pj ej => ?_, Or.inr ⟨k, by omega, hp, hl, rfl⟩⟩, mm⟩
            by_cases e2 : j = k
            · rw [e2]; exact Nat.le_refl _
            · have := h3 j (by omega) pj ej; omega
        · rw [if_neg (fun z => hl (by
            have := congrArg Int32.toInt z
            rw [on_toI (by omega), on_toI (by omega)] at this
            omega))]
          exact keep fun _ z => absurd z hl
      · rw [if_neg hp, if_neg (show ¬ (0 : Int32) = 1 by decide)]
        exact keep fun z => absurd z hp) fu (0, 0) ⟨0, 0, rfl, by omega, by omega, fun j hj => by omega, Or.inl rfl⟩ (msr_fu (by dsimp only; decide) (by decide))
  unfold f_Y8_deepest
  rw [q1, bnd1_s, q2]
  have D : DP v q i m := by
    obtain ⟨r1, r2, r3⟩ := q3
    refine ⟨r1, fun p hp => ?_, ?_⟩
    · obtain ⟨p1, p2, p3⟩ := hp
      have e1 : (i * q + p - 1) / q = i := by
        rw [show i * q + p - 1 = p - 1 + i * q by omega, Nat.add_mul_div_right _ _ (show 0 < q by omega), Nat.div_eq_of_lt (by omega)]; omega
      have e2 : (i * q + p - 1) % q = p - 1 := by
        rw [show i * q + p - 1 = p - 1 + i * q by omega, Nat.add_mul_mod_self_right, Nat.mod_eq_of_lt (by omega)]
      have hM2 : i * q + q ≤ M * q := by
        have := Nat.mul_le_mul_right q (show i + 1 ≤ M by omega)
        rw [Nat.add_mul, Nat.one_mul] at this
        exact this
      have := r2 _ (by omega) p3 e1
      omega
    · rcases r3 with y | ⟨j, j1, j2, j3, j4⟩
      · exact Or.inl y
      · right
        have dv := Nat.div_add_mod j q
        rw [Nat.mul_comm, j3] at dv
        refine ⟨by omega, by omega, ?_⟩
        rw [show i * q + m - 1 = j by omega]
        exact j2
  rw [DP_uniq D (dp_at hq hq8 hk).1]
def ctf (D : Nat → Nat) : Nat → Nat
  | 0 => 0
  | k + 1 => ctf D k + if D k = 0 then 0 else 1
def smf (D : Nat → Nat) : Nat → Nat
  | 0 => 0
  | k + 1 => smf D k + 2 * D k
def laf (D : Nat → Nat) : Nat → Nat
  | 0 => 0
  | k + 1 => if D k = 0 then laf D k else k
theorem ctf_le {D : Nat → Nat} : ∀ k, ctf D k ≤ k := by
  intro k
  induction k with
  | zero => exact Nat.le_refl _
  | succ k ih => unfold ctf; split <;> omega
theorem smf_le {D : Nat → Nat} {q : Nat} : ∀ k, (∀ i, i < k → D i ≤ q) → smf D k ≤ 2 * q * k := by
  intro k
  induction k with
  | zero => intro _; exact Nat.le_refl _
  | succ k ih =>
    intro h
    have := ih (fun i hi => h i (by omega))
    have := h k (by omega)
    have e : 2 * q * (k + 1) = 2 * q * k + 2 * q := Nat.mul_succ _ _
    unfold smf
    omega
theorem laf_le {D : Nat → Nat} : ∀ k, laf D (k + 1) ≤ k := by
  intro k
  induction k with
  | zero => unfold laf; split <;> simp [laf]
  | succ k ih =>
    show (if D (k + 1) = 0 then laf D (k + 1) else k + 1) ≤ k + 1
    split <;> omega
theorem last_all {D : Nat → Nat} {k : Nat} (h : D k ≠ 0) : ∀ M, k < M → (∀ i, k < i → i < M → D i = 0) → laf D M = k ∧ ctf D M = ctf D (k + 1) ∧ smf D M = smf D (k + 1) := by
  intro M
  induction M with
  | zero => intro hk; omega
  | succ M ih =>
    intro hk hz
    by_cases e : M = k
    · subst e
      exact ⟨if_neg h, rfl, rfl⟩
    · obtain ⟨a, b, c⟩ := ih (by omega) (fun i h1 h2 => hz i h1 (by omega))
      have z := hz M (by omega) (by omega)
      refine ⟨?_, ?_, ?_⟩
      · show (if D M = 0 then laf D M else M) = k
        rw [if_pos z]; exact a
      · show ctf D M + (if D M = 0 then 0 else 1) = _
        rw [if_pos z, b]; rfl
      · show smf D M + 2 * D M = _
        rw [z, c]; rfl
theorem n_rule {w : Nat → Int32} {M q : Nat} {g n1 : Int32} {v : Int64} (hW : MW w M q g v) (hM : M * q ≤ 48) (hM6 : M ≤ 6) (hq : 1 ≤ q) (hq8 : q ≤ 8) : loop (fun z : Int32 × Int32 × Int32 × Int32 => f_Y8_byRule_L10 n1 w z.1 z.2.1 z.2.2.1 z.2.2.2) fu (0, 0, 0, 0) = some (Int32.ofNat (ctf (dpf v q) M), Int32.ofNat (laf (dpf v q) M), Int32.ofNat (smf (dpf v q) M)) := by
  have w1 : w (1 : Int32).toNatClampNeg = Int32.ofNat M := hW.1
  have Dq : ∀ i, i < M → dpf v q i ≤ q := fun i hi => (dp_at hq hq8 (lane_in hi hM)).1.1
  obtain ⟨e, q1, q2⟩ := lp_one (f := fun z : Int32 × Int32 × Int32 × Int32 => f_Y8_byRule_L10 n1 w z.1 z.2.1 z.2.2.1 z.2.2.2) (fun z => ∃ k : Nat, z = (Int32.ofNat (ctf (dpf v q) k), Int32.ofNat (laf (dpf v q) k), Int32.ofNat (smf (dpf v q) k), Int32.ofNat k) ∧ k ≤ M) (fun e => e = (Int32.ofNat (ctf (dpf v q) M), Int32.ofNat (laf (dpf v q) M), Int32.ofNat (smf (dpf v q) M))) (fun z => msr z.2.2.2 10) (by
    rintro ⟨a, b, c, d⟩ ⟨k, h0, h1⟩
    cases h0
    dsimp only
    unfold f_Y8_byRule_L10 f_Y8_byRule_L10_J36 f_Y8_byRule_L10_J53
    rw [gd_2450 (by decide) (by decide), w1]
    by_cases e : k = M
    · right
      subst e
      rw [if_pos (Int32.le_refl _)]
      exact ⟨_, rfl, rfl⟩
    · left
      have mm : msr (Int32.ofNat k + 1) 10 < msr (Int32.ofNat k) 10 := msr_lt ((on_lt (k := k) (m := 10) (by omega) (by omega)).mpr (by omega))
      have dk := n_deep hW hM hM6 hq hq8 (show k < M by omega)
      have dq := Dq k (by omega)
      have s1 := smf_le (D := dpf v q) (q := q) k (fun i hi => Dq i (by omega))
      have s2 : 2 * q * k ≤ 16 * 6 := Nat.mul_le_mul (by omega) (by omega)
      have c1 := ctf_le (D := dpf v q) k
      have sm : Int32.ofNat (smf (dpf v q) k) + 2 * Int32.ofNat (dpf v q k) = Int32.ofNat (smf (dpf v q) (k + 1)) := by
        rw [show (2 : Int32) = Int32.ofNat 2 from rfl, on_mulI (by omega) (by omega) (by omega), on_addI (by omega)]; rfl
      rw [if_neg (fun z => absurd ((on_le (k := M) (m := k) (by omega) (by omega)).mp z) (by omega)), dk, bnd1_s]
      simp only [bnd1, Option.bind_some]
      by_cases hz : dpf v q k = 0
      · have ct : Int32.ofNat (ctf (dpf v q) k) + 0 = Int32.ofNat (ctf (dpf v q) (k + 1)) := by
          rw [Int32.add_zero]
          show _ = Int32.ofNat (ctf (dpf v q) k + if dpf v q k = 0 then 0 else 1)
          rw [if_pos hz]; rfl
        have la : laf (dpf v q) (k + 1) = laf (dpf v q) k := if_pos hz
        rw [if_pos ((on_le0 (by omega)).mpr hz), if_pos ((on_le0 (by omega)).mpr hz), sm, ct, ← la]
        rw [on_inc] at mm ⊢
        exact ⟨_, rfl, ⟨k + 1, rfl, by omega⟩, mm⟩
      · have ct : Int32.ofNat (ctf (dpf v q) k) + 1 = Int32.ofNat (ctf (dpf v q) (k + 1)) := by
          rw [on_inc]
          show _ = Int32.ofNat (ctf (dpf v q) k + if dpf v q k = 0 then 0 else 1)
          rw [if_neg hz]
        have la : laf (dpf v q) (k + 1) = k := if_neg hz
        rw [if_neg (fun z => hz ((on_le0 (by omega)).mp z)), if_neg (fun z => hz ((on_le0 (by omega)).mp z)), sm, ct]
        rw [on_inc] at mm ⊢
        exact ⟨_, rfl, ⟨k + 1, by rw [la], by omega⟩, mm⟩) fu (0, 0, 0, 0) ⟨0, rfl, by omega⟩ (msr_fu (by dsimp only; decide) (by decide))
  rw [q1, q2]
theorem n_through {v : Int64} {M q k : Nat} {g : Int32} {d s w0 : Int32} (hq : 1 ≤ q) (hq8 : q ≤ 8) (hM6 : M ≤ 6) (hM : M * q ≤ 48) (hk : k < M) : ∃ s' w', loop (fun z : Int32 × Int32 × Int32 × Int32 × Int32 => f_X3_through_L18 (Int32.ofNat k) (Int32.ofNat M) (Int32.ofNat q) g v z.1 z.2.1 z.2.2.1 z.2.2.2.1 z.2.2.2.2) fu (0, 0, d, s, w0) = some (Int32.ofNat (ctf (dpf v q) (k + 1)), Int32.ofNat (dpf v q k), s', w') := by
  obtain ⟨⟨m, d', s', w'⟩, q1, q2, q3⟩ := lp_one (f := fun z : Int32 × Int32 × Int32 × Int32 × Int32 => f_X3_through_L18 (Int32.ofNat k) (Int32.ofNat M) (Int32.ofNat q) g v z.1 z.2.1 z.2.2.1 z.2.2.2.1 z.2.2.2.2) (fun z => ∃ i : Nat, z.1 = Int32.ofNat (ctf (dpf v q) i) ∧ z.2.1 = Int32.ofNat i ∧ i ≤ k + 1 ∧ (i = k + 1 → z.2.2.1 = Int32.ofNat (dpf v q k))) (fun e => e.1 = Int32.ofNat (ctf (dpf v q) (k + 1)) ∧ e.2.1 = Int32.ofNat (dpf v q k)) (fun z => msr z.2.1 10) (by
    rintro ⟨a, b, d, s, w0⟩ ⟨i, h0, h1, h2, h3⟩
    dsimp only at h0 h1 h3
    subst h0 h1
    dsimp only
    unfold f_X3_through_L18 f_X3_through_L18_J41
    by_cases e : i = k + 1
    · right
      rw [if_pos ((on_lt (by omega) (by omega)).mpr (by omega))]
      refine ⟨_, rfl, by rw [e], h3 e⟩
    · left
      have mm : msr (Int32.ofNat i + 1) 10 < msr (Int32.ofNat i) 10 := msr_lt ((on_lt (k := i) (m := 10) (by omega) (by omega)).mpr (by omega))
      obtain ⟨D1, D2⟩ := dp_at (v := v) (i := i) hq hq8 (lane_in (show i < M by omega) hM)
      obtain ⟨sh, wd, l1⟩ := D2 d s w0
      have dq := D1.1
      have c1 := ctf_le (D := dpf v q) i
      rw [if_neg (fun z => absurd ((on_lt (k := k) (m := i) (by omega) (by omega)).mp z) (by omega)), l1, bnd3_s]
      by_cases hz : dpf v q i = 0
      · rw [if_pos ((on_le0 (by omega)).mpr hz)]
        rw [on_inc] at mm ⊢
        refine ⟨_, rfl, ⟨i + 1, ?_, rfl, by omega, fun e2 => by dsimp only; rw [show i = k by omega]⟩, mm⟩
        dsimp only
        show _ = Int32.ofNat (ctf (dpf v q) i + if dpf v q i = 0 then 0 else 1)
        rw [if_pos hz]; rfl
      · rw [if_neg (fun z => hz ((on_le0 (by omega)).mp z))]
        rw [on_inc] at mm
        refine ⟨_, rfl, ⟨i + 1, ?_, by dsimp only; rw [on_inc], by omega, fun e2 => by dsimp only; rw [show i = k by omega]⟩, by dsimp only; rw [on_inc]; exact mm⟩
        dsimp only
        rw [on_inc]
        show _ = Int32.ofNat (ctf (dpf v q) i + if dpf v q i = 0 then 0 else 1)
        rw [if_neg hz]) fu (0, 0, d, s, w0) ⟨0, rfl, rfl, by omega, fun e => by omega⟩ (msr_fu (by dsimp only; decide) (by decide))
  dsimp only at q2 q3
  subst q2 q3
  exact ⟨s', w', q1⟩
theorem n_back {v : Int64} {M q k : Nat} {g : Int32} {d s w0 x : Int32} (hq : 1 ≤ q) (hq8 : q ≤ 8) (hM6 : M ≤ 6) (hM : M * q ≤ 48) (hk : k < M) : ∃ d' s' w', loop (fun z : Int32 × Int32 × Int32 × Int32 × Int32 => f_X3_back_L25 (Int32.ofNat k) (Int32.ofNat M) (Int32.ofNat q) g v z.1 z.2.1 z.2.2.1 z.2.2.2.1 z.2.2.2.2) fu (x, 0, d, s, w0) = some (x + Int32.ofNat (smf (dpf v q) (k + 1)), d', s', w') := by
  obtain ⟨⟨m, d', s', w'⟩, q1, q2⟩ := lp_one (f := fun z : Int32 × Int32 × Int32 × Int32 × Int32 => f_X3_back_L25 (Int32.ofNat k) (Int32.ofNat M) (Int32.ofNat q) g v z.1 z.2.1 z.2.2.1 z.2.2.2.1 z.2.2.2.2) (fun z => ∃ i : Nat, z.1 = x + Int32.ofNat (smf (dpf v q) i) ∧ z.2.1 = Int32.ofNat i ∧ i ≤ k + 1) (fun e => e.1 = x + Int32.ofNat (smf (dpf v q) (k + 1))) (fun z => msr z.2.1 10) (by
    rintro ⟨a, b, d, s, w0⟩ ⟨i, h0, h1, h2⟩
    dsimp only at h0 h1
    subst h0 h1
    dsimp only
    unfold f_X3_back_L25
    by_cases e : i = k + 1
    · right
      rw [if_pos ((on_lt (by omega) (by omega)).mpr (by omega))]
      exact ⟨_, rfl, by rw [e]⟩
    · left
      have mm : msr (Int32.ofNat i + 1) 10 < msr (Int32.ofNat i) 10 := msr_lt ((on_lt (k := i) (m := 10) (by omega) (by omega)).mpr (by omega))
      obtain ⟨D1, D2⟩ := dp_at (v := v) (i := i) hq hq8 (lane_in (show i < M by omega) hM)
      obtain ⟨sh, wd, l1⟩ := D2 d s w0
      have dq := D1.1
      have s1 := smf_le (D := dpf v q) (q := q) i (fun j hj => (dp_at hq hq8 (lane_in (show j < M by omega) hM)).1.1)
      have s2 : 2 * q * i ≤ 16 * 6 := Nat.mul_le_mul (by omega) (by omega)
      have sm : x + Int32.ofNat (smf (dpf v q) i) + 2 * Int32.ofNat (dpf v q i) = x + Int32.ofNat (smf (dpf v q) (i + 1)) := by
        rw [Int32.add_assoc, show (2 : Int32) = Int32.ofNat 2 from rfl, on_mulI (by omega) (by omega) (by omega), on_addI (by omega)]; rfl
      rw [if_neg (fun z => absurd ((on_lt (k := k) (m := i) (by omega) (by omega)).mp z) (by omega)), l1, bnd3_s, sm]
      rw [on_inc] at mm ⊢
      exact ⟨_, rfl, ⟨i + 1, rfl, rfl, by omega⟩, mm⟩) fu (x, 0, d, s, w0) ⟨0, by dsimp only; show x = x + 0; rw [Int32.add_zero], rfl, by omega⟩ (msr_fu (by dsimp only; decide) (by decide))
  dsimp only at q2
  subst q2
  exact ⟨d', s', w', q1⟩
theorem mx_k {ε α β : Type} {a : α} {f : ε → β} {g : α → β} : mx (.ok a) f g = g a := rfl
theorem mx_f {ε α β : Type} {a : ε} {f : ε → β} {g : α → β} : mx (.error a) f g = f a := rfl
theorem wave_MW {tod prods lan pos rom gp plc lcn ocn : Int32} {pkd : Int64} {w : Nat → Int32} (hD : QD tod prods lan pos rom gp plc lcn ocn w) (hK : QK plc pkd w) : ∃ M q : Nat, lan = Int32.ofNat M ∧ pos = Int32.ofNat q ∧ 1 ≤ M ∧ M ≤ 6 ∧ 1 ≤ q ∧ q ≤ 8 ∧ M * q ≤ 48 ∧ MW w M q gp pkd ∧ 1 ≤ gp.toInt ∧ gp.toInt ≤ 5 := by
  obtain ⟨d0, d1, d2, d3, d4, d5, d6, d7, d8, d9, d10, d11, d12, d13, d14, d15, d16, d17, -⟩ := hD
  obtain ⟨k1, k2⟩ := hK
  rw [i_le] at d4 d5 d7 d8 d13 d14
  have z1 : (1 : Int32).toInt = 1 := rfl
  have z5 : (5 : Int32).toInt = 5 := rfl
  have z6 : (6 : Int32).toInt = 6 := rfl
  have z8 : (8 : Int32).toInt = 8 := rfl
  rw [z1] at d4 d7 d13
  rw [z6] at d5
  rw [z8] at d8
  rw [z5] at d14
  obtain ⟨M, hM⟩ : ∃ M : Nat, lan.toInt = M := ⟨lan.toInt.toNat, by omega⟩
  obtain ⟨q, hq⟩ : ∃ q : Nat, pos.toInt = q := ⟨pos.toInt.toNat, by omega⟩
  have eM : lan = Int32.ofNat M := by rw [i_eq, on_toI (by omega), hM]
  have eQ : pos = Int32.ofNat q := by rw [i_eq, on_toI (by omega), hq]
  have m48 : M * q ≤ 48 := Nat.mul_le_mul (show M ≤ 6 by omega) (show q ≤ 8 by omega)
  have eP : plc = Int32.ofNat (M * q) := by rw [d15, eM, eQ, on_mulI (by omega) (by omega) (by omega)]
  have bits : ∀ k, k < 48 → (w (159 + k) = 0 ∧ ¬ PB pkd k) ∨ (w (159 + k) = 1 ∧ PB pkd k ∧ k < M * q) := fun k hk => by
    have b := bit_at k1 hk
    have c := k2 (Int32.ofNat k) (on_k (by omega)).2.2 ((on_lt (k := k) (m := 48) (by omega) (by omega)).mpr hk)
    have e : ix w (159 + Int32.ofNat k) = w (159 + k) := by
      show w (159 + Int32.ofNat k).toNatClampNeg = _
      rw [on_159 hk, (on_k (by omega)).1]
    rw [e] at c
    rcases c with ⟨c1, c2⟩ | ⟨c1, c2, c3⟩
    · left
      rw [c2] at b
      refine ⟨c1, fun z => ?_⟩
      have : (0 : Int64).toBitVec.toNat = 0 := rfl
      have z' : nv pkd / 2 ^ k % 2 = 1 := z
      omega
    · right
      rw [c2] at b
      have : (1 : Int64).toBitVec.toNat = 1 := rfl
      rw [eP] at c3
      exact ⟨c1, by show nv pkd / 2 ^ k % 2 = 1; omega, (on_lt (by omega) (by omega)).mp c3⟩
  refine ⟨M, q, eM, eQ, by omega, by omega, by omega, by omega, m48, ⟨by rw [d3, eM], by rw [d6, eQ], d12, fun k hk => ?_, fun k hk hp => ?_⟩, d13, d14⟩
  · rcases bits k hk with ⟨a, b⟩ | ⟨a, b, -⟩
    · rw [if_neg b]; exact a
    · rw [if_pos b]; exact a
  · rcases bits k hk with ⟨a, b⟩ | ⟨a, b, c⟩
    · exact absurd hp b
    · exact c
theorem pk_idx {v : Int64} {M q i p : Nat} (hq : 1 ≤ q) (hi : i < M) (hp : LPk v q i p) : i * q + p - 1 < M * q ∧ PB v (i * q + p - 1) ∧ (i * q + p - 1) / q = i ∧ (i * q + p - 1) % q + 1 = p := by
  obtain ⟨p1, p2, p3⟩ := hp
  have e1 : (i * q + p - 1) / q = i := by
    rw [show i * q + p - 1 = p - 1 + i * q by omega, Nat.add_mul_div_right _ _ (show 0 < q by omega), Nat.div_eq_of_lt (by omega)]; omega
  have e2 : (i * q + p - 1) % q = p - 1 := by
    rw [show i * q + p - 1 = p - 1 + i * q by omega, Nat.add_mul_mod_self_right, Nat.mod_eq_of_lt (by omega)]
  have hM2 := Nat.mul_le_mul_right q (show i + 1 ≤ M by omega)
  rw [Nat.add_mul, Nat.one_mul] at hM2
  exact ⟨by omega, p3, e1, by omega⟩
theorem pk_of {v : Int64} {M q j : Nat} (hq : 1 ≤ q) (hj : j < M * q) (hp : PB v j) : j / q < M ∧ LPk v q (j / q) (j % q + 1) := by
  have d1 : j / q < M := Nat.div_lt_of_lt_mul (by rw [Nat.mul_comm]; exact hj)
  have d2 := Nat.mod_lt j (show 0 < q by omega)
  have dv := Nat.div_add_mod j q
  rw [Nat.mul_comm] at dv
  exact ⟨d1, by omega, by omega, by rw [show j / q * q + (j % q + 1) - 1 = j by omega]; exact hp⟩
theorem s_least {v : Int64} {M q : Nat} {g : Int32} {w least next lane position mleast : Nat → Int32} (d0 s0 w0 : Int32) (hW : MW w M q g v) (hq : 1 ≤ q) (hq8 : q ≤ 8) (hM6 : M ≤ 6) (hM : M * q ≤ 48) (g0 : 0 ≤ g.toInt) (g5 : g.toInt ≤ 5) (hc : cn v (M * q) ≤ 10) :
    ∃ r d s w' l' n', f_X3_least d0 s0 w0 least next (Int32.ofNat M) (Int32.ofNat q) g v = some (r, d, s, w', l', n') ∧ ((cn v (M * q) = 0 ∧ r = 0) ∨ (cn v (M * q) ≠ 0 ∧ ∃ la po c, f_Y8_leastWay w lane position mleast = some (r, la, po, c))) := by
  obtain ⟨r, d, s, w', l', n', h1, h2⟩ := n_least (v := v) (least := least) (next := next) d0 s0 w0 hq hq8 hM6 hM g0 g5
  refine ⟨r, d, s, w', l', n', h1, ?_⟩
  rcases h2 with ⟨h2, h3⟩ | ⟨k, ⟨h2, ⟨p, h3⟩, h4⟩, h5⟩
  · left
    refine ⟨?_, h2⟩
    apply Classical.byContradiction
    intro z
    obtain ⟨j, j1, j2, -⟩ := cn_surj (v := v) (M * q) 0 (by omega)
    obtain ⟨a, b⟩ := pk_of hq j1 j2
    exact h3 _ _ a b
  · right
    obtain ⟨x1, x2, -, -⟩ := pk_idx hq h2 h3
    have c1 := cn_lt x2 x1
    refine ⟨by omega, ?_⟩
    obtain ⟨b, la, po, c, pt, m1, m2, m3⟩ := n_leastWay (lane := lane) (position := position) (least := mleast) hW hM hM6 hq hq8 g0 g5 (by omega) hc
    have key := least_way (L := q + 1) (N := k + 1) (n := cn v (M * q)) (g := g.toInt) (P := LPk v q) (lk := lkf v q) (pt := pt) (T := TT2 c) (best := b.toInt) (by omega) (by omega) g0 g5 (by omega) (by omega) (by omega) hc (fun i hi => by
      obtain ⟨dd, ss, ww, -, k2, k3, -⟩ := lk_at (v := v) (i := i) hq hq8 (lane_in (show i < M by omega) hM)
      rw [k2]; exact k3) ⟨p, h3⟩ (fun m hm => by
      obtain ⟨j, j1, j2, j3⟩ := cn_surj (v := v) (M * q) m hm
      obtain ⟨a, b⟩ := pk_of hq j1 j2
      rw [← j3, m2 j j1 j2]
      refine ⟨?_, b⟩
      dsimp only
      apply Classical.byContradiction
      intro z
      exact h4 (j / q) (j % q + 1) (by omega) a b) (fun i p' hi hp => by
      obtain ⟨y1, y2, y3, y4⟩ := pk_idx (M := M) hq (show i < M by omega) hp
      refine ⟨cn v (i * q + p' - 1), cn_lt y2 y1, ?_⟩
      rw [m2 _ y1 y2, y3, y4]) (fun m m' hm hm' e => by
      obtain ⟨j, j1, j2, j3⟩ := cn_surj (v := v) (M * q) m hm
      obtain ⟨j', j1', j2', j3'⟩ := cn_surj (v := v) (M * q) m' hm'
      rw [← j3, ← j3', m2 j j1 j2, m2 j' j1' j2'] at e
      have e1 : j / q = j' / q := congrArg Prod.fst e
      have e2 : j % q + 1 = j' % q + 1 := congrArg Prod.snd e
      have v1 := Nat.div_add_mod j q
      have v2 := Nat.div_add_mod j' q
      rw [e1] at v1
      have : j = j' := by omega
      rw [← j3, ← j3', this]) m3 _ rfl
    have rb : r = b := by
      rw [i_eq, key, h5 _ rfl]
      rfl
    exact ⟨la, po, c, by rw [m1, rb]⟩
theorem last_D {v : Int64} {M q k : Nat} (hq : 1 ≤ q) (hq8 : q ≤ 8) (hM : M * q ≤ 48) (h : LL v q M k) : dpf v q k ≠ 0 ∧ laf (dpf v q) M = k ∧ ctf (dpf v q) M = ctf (dpf v q) (k + 1) ∧ smf (dpf v q) M = smf (dpf v q) (k + 1) := by
  obtain ⟨h1, ⟨p, h2⟩, h3⟩ := h
  have nz : dpf v q k ≠ 0 := fun z => by
    have := (dp_at hq hq8 (lane_in h1 hM)).1.2.1 p h2
    have := h2.1
    omega
  refine ⟨nz, last_all nz M h1 fun i hi hi2 => ?_⟩
  rcases (dp_at hq hq8 (lane_in hi2 hM)).1.2.2 with y | y
  · exact y
  · exact absurd y (h3 i _ hi hi2)
theorem s_rule {v : Int64} {M q : Nat} {g : Int32} {w : Nat → Int32} (d0 s0 w0 : Int32) (hW : MW w M q g v) (hq : 1 ≤ q) (hq8 : q ≤ 8) (hM6 : M ≤ 6) (hM : M * q ≤ 48) :
    (∃ r d s w', f_X3_through d0 s0 w0 (Int32.ofNat M) (Int32.ofNat q) g v = some (r, d, s, w') ∧ ((cn v (M * q) = 0 ∧ r = 0) ∨ (cn v (M * q) ≠ 0 ∧ f_Y8_byRule 1 w = some r))) ∧
    ∃ r d s w', f_X3_back d0 s0 w0 (Int32.ofNat M) (Int32.ofNat q) g v = some (r, d, s, w') ∧ ((cn v (M * q) = 0 ∧ r = 0) ∨ (cn v (M * q) ≠ 0 ∧ f_Y8_byRule 0 w = some r)) := by
  obtain ⟨r, d, s, w', h1, h2⟩ := n_lastLane (v := v) d0 s0 w0 hq hq8 hM6 hM
  unfold f_X3_through f_X3_back
  rw [h1, bnd4_s, bnd4_s]
  have zr : (∀ i p, i < M → ¬ LPk v q i p) → cn v (M * q) = 0 := fun h3 => by
    apply Classical.byContradiction
    intro z
    obtain ⟨j, j1, j2, -⟩ := cn_surj (v := v) (M * q) 0 (by omega)
    obtain ⟨a, b⟩ := pk_of hq j1 j2
    exact h3 _ _ a b
  rcases h2 with ⟨h2, h3⟩ | ⟨k, h2, h3⟩
  · subst h2
    rw [if_pos rfl, if_pos rfl]
    exact ⟨⟨0, d, s, w', rfl, Or.inl ⟨zr h3, rfl⟩⟩, ⟨0, d, s, w', rfl, Or.inl ⟨zr h3, rfl⟩⟩⟩
  · subst h2
    have h3k := h3
    obtain ⟨k1, ⟨p, k2⟩, k3⟩ := h3k
    obtain ⟨x1, x2, -, -⟩ := pk_idx hq k1 k2
    have c1 := cn_lt x2 x1
    obtain ⟨nz, L1, L2, L3⟩ := last_D hq hq8 hM h3
    obtain ⟨s', w2, t1⟩ := n_through (v := v) (g := g) (d := d) (s := s) (w0 := w') hq hq8 hM6 hM k1
    obtain ⟨d3, s3, w3, t2⟩ := n_back (v := v) (g := g) (d := d) (s := s) (w0 := w') (x := 2 * g * Int32.ofNat k) hq hq8 hM6 hM k1
    have e2 : w (2 : Int32).toNatClampNeg = Int32.ofNat q := hW.2.1
    have e4 : w (4 : Int32).toNatClampNeg = g := hW.2.2.1
    have R1 := n_rule (n1 := 1) hW hM hM6 hq hq8
    have R0 := n_rule (n1 := 0) hW hM hM6 hq hq8
    have dd := n_deep hW hM hM6 hq hq8 k1
    rw [L1, L2, L3] at R1 R0
    have c2 := ctf_le (D := dpf v q) (k + 1)
    have half : Int32.ofNat (ctf (dpf v q) (k + 1)) - Int32.ofNat (ctf (dpf v q) (k + 1)) / 2 * 2 = Int32.ofNat (ctf (dpf v q) (k + 1) % 2) := by
      generalize ctf (dpf v q) (k + 1) = c at *
      have := Nat.div_le_self c 2
      rw [show (2 : Int32) = Int32.ofNat 2 from rfl, on_div (by omega) (by omega) (by omega), on_mulI (by omega) (by omega) (by omega), on_subI (by omega) (by omega), show c - c / 2 * 2 = c % 2 by omega]
    rw [if_neg (on_ne1 (by omega)), if_neg (on_ne1 (by omega)), t1, bnd4_s, t2, bnd4_s, half]
    have hb : f_Y8_byRule 0 w = some (2 * g * Int32.ofNat k + Int32.ofNat (smf (dpf v q) (k + 1))) := by
      unfold f_Y8_byRule
      rw [R0, bnd3_s, gd_2450 (by decide) (by decide), gd_2450 (by decide) (by decide), if_pos rfl, e4]
    refine ⟨?_, _, d3, s3, w3, rfl, Or.inr ⟨by omega, hb⟩⟩
    have ht : f_Y8_byRule 1 w = (if Int32.ofNat (ctf (dpf v q) (k + 1) % 2) = 0 then some (2 * g * Int32.ofNat k + Int32.ofNat (ctf (dpf v q) (k + 1)) * (Int32.ofNat q + 1)) else some (2 * g * Int32.ofNat k + ((Int32.ofNat (ctf (dpf v q) (k + 1)) - 1) * (Int32.ofNat q + 1) + 2 * Int32.ofNat (dpf v q k)))) := by
      unfold f_Y8_byRule f_Y8_byRule_J134
      rw [R1, bnd3_s, gd_2450 (by decide) (by decide), gd_2450 (by decide) (by decide), if_neg one_ne, e4, e2, half, dd, bnd1_s]
    rw [ht]
    by_cases hz : Int32.ofNat (ctf (dpf v q) (k + 1) % 2) = 0
    · rw [if_pos hz, if_pos hz, hz, Int32.sub_zero]
      exact ⟨_, _, _, _, rfl, Or.inr ⟨by omega, rfl⟩⟩
    · have e1 : Int32.ofNat (ctf (dpf v q) (k + 1) % 2) = 1 := by
        rcases Nat.mod_two_eq_zero_or_one (ctf (dpf v q) (k + 1)) with y | y
        · rw [y] at hz; exact absurd rfl hz
        · rw [y]; rfl
      rw [if_neg hz, if_neg hz, e1, Int32.add_assoc]
      exact ⟨_, _, _, _, rfl, Or.inr ⟨by omega, rfl⟩⟩
theorem p_pickLength {tod prods lan pos rom gp plc lcn ocn v1 cr d0 s0 w0 : Int32} {pkd : Int64} {w least next lane position mleast : Nat → Int32} {o : Nat → Int64} (hD : QD tod prods lan pos rom gp plc lcn ocn w) (hK : QK plc pkd w) :
    ∃ k d' s' w' l' n' o' b la po c, f_W_pickLength v1 lan pos gp pkd d0 s0 w0 least next o = some (k, d', s', w', l', n', o') ∧ f_Y8_pickLength v1 cr w lane position mleast = some (b, k, la, po, c) ∧ (k = 0 → o' 0 = b.toInt64) := by
  obtain ⟨pc, pc1, pc2⟩ := p_pickCount (c := cr) hD hK
  obtain ⟨M, q, eM, eQ, m1, m6, q1, q8, m48, hW, g1, g5⟩ := wave_MW hD hK
  subst eM eQ
  have P := n_picks hW m48 m6 q8
  have bc : f_J13_bitCount_95d88 pkd = some (Int32.ofNat (cn pkd (M * q))) := by
    unfold f_Y8_pickCount at pc2
    rw [P, bnd1_s] at pc2
    have e : pc = Int32.ofNat (cn pkd (M * q)) := by
      have := Option.some.inj pc2
      exact (congrArg Prod.fst this).symm
    rw [e] at pc1
    unfold f_X7_pickCount at pc1
    cases hb : f_J13_bitCount_95d88 pkd with
    | none => rw [hb] at pc1; exact absurd pc1 (by simp [bnd1])
    | some x => rw [hb, bnd1_s] at pc1; exact pc1
  have c48 := cn_self (v := pkd) (M * q)
  have cz : Int32.ofNat (cn pkd (M * q)) = 0 ↔ cn pkd (M * q) = 0 := by
    constructor
    · intro z
      have := congrArg Int32.toInt z
      rw [on_toI (by omega), show (0 : Int32).toInt = 0 from rfl] at this
      omega
    · intro z; rw [z]; rfl
  by_cases h1 : 0 ≤ v1 ∧ v1 ≤ 2
  rotate_left
  · refine ⟨1, d0, s0, w0, least, next, o, 0, lane, position, mleast, ?_, ?_, fun z => absurd z (by decide)⟩
    · unfold f_W_pickLength f_X7_pickLength
      rw [n_range, if_neg h1]
      simp only [bnd1, bnd6, Option.bind_some, mx, ↓reduceIte]
    · unfold f_Y8_pickLength
      rw [n_in, if_neg h1]
      simp only [bnd1, bnd2, Option.bind_some, can_f, ↓reduceIte]
  have tail : ∀ r : Int32, (cn pkd (M * q) = 0 ∧ r = 0) ∨ cn pkd (M * q) ≠ 0 → ∀ {X : Option (Int32 × Int32 × (Nat → Int32) × (Nat → Int32) × (Nat → Int32))}, (if Int32.ofNat (cn pkd (M * q)) = 0 then some ((0 : Int32), (0 : Int32), lane, position, mleast) else X) = (if cn pkd (M * q) = 0 then some ((0 : Int32), (0 : Int32), lane, position, mleast) else X) := fun r hr {X} => by
    by_cases hz : cn pkd (M * q) = 0
    · rw [if_pos (cz.mpr hz), if_pos hz]
    · rw [if_neg (fun z => hz (cz.mp z)), if_neg hz]
  by_cases e0 : v1 = 0
  · subst e0
    obtain ⟨⟨r, d, s, w', t1, t2⟩, -⟩ := s_rule d0 s0 w0 hW q1 q8 m6 m48
    refine ⟨0, d, s, w', least, next, vp_updL o (0 : Int32).toNatClampNeg r.toInt64, r, lane, position, mleast, ?_, ?_, fun _ => rfl⟩
    · unfold f_W_pickLength f_X7_pickLength
      rw [n_range, if_pos h1, bnd1_s, mx_k, if_pos rfl, t1, bnd4_s, bnd6_s, mx_k, gd_1 (by decide) (by decide)]
    · unfold f_Y8_pickLength f_Y8_pickLength_J29 f_Y8_pickLength_J34 f_Y8_pickLength_J76
      rw [n_in, if_pos h1, bnd1_s, can_t, bnd2_s, if_neg one_ne, if_neg (show ¬ (0 : Int32) = 2 by decide), can_t, bnd2_s, if_neg one_ne, P, bnd1_s, if_neg (show ¬ (0 : Int32) = 2 by decide), if_pos rfl]
      rcases t2 with ⟨a, b⟩ | ⟨a, b⟩
      · rw [if_pos (cz.mpr a), b]
      · rw [if_neg (fun z => a (cz.mp z)), b, bnd1_s]
  · by_cases e1 : v1 = 1
    · subst e1
      obtain ⟨-, r, d, s, w', t1, t2⟩ := s_rule d0 s0 w0 hW q1 q8 m6 m48
      refine ⟨0, d, s, w', least, next, vp_updL o (0 : Int32).toNatClampNeg r.toInt64, r, lane, position, mleast, ?_, ?_, fun _ => rfl⟩
      · unfold f_W_pickLength f_X7_pickLength
        rw [n_range, if_pos h1, bnd1_s, mx_k, if_neg one_ne, if_pos rfl, t1, bnd4_s, bnd6_s, mx_k, gd_1 (by decide) (by decide)]
      · unfold f_Y8_pickLength f_Y8_pickLength_J29 f_Y8_pickLength_J34 f_Y8_pickLength_J76
        rw [n_in, if_pos h1, bnd1_s, can_t, bnd2_s, if_neg one_ne, if_neg (show ¬ (1 : Int32) = 2 by decide), can_t, bnd2_s, if_neg one_ne, P, bnd1_s, if_neg (show ¬ (1 : Int32) = 2 by decide), if_neg one_ne]
        rcases t2 with ⟨a, b⟩ | ⟨a, b⟩
        · rw [if_pos (cz.mpr a), b]
        · rw [if_neg (fun z => a (cz.mp z)), b, bnd1_s]
    · have e2 : v1 = 2 := by
        obtain ⟨x, y⟩ := h1
        rw [i_le] at x y
        rw [i_eq] at e0 e1 ⊢
        have z0 : (0 : Int32).toInt = 0 := rfl
        have z1 : (1 : Int32).toInt = 1 := rfl
        have z2 : (2 : Int32).toInt = 2 := rfl
        omega
      subst e2
      by_cases hten : cn pkd (M * q) ≤ 10
      · have nt : ¬ (10 : Int32) < Int32.ofNat (cn pkd (M * q)) := fun z => absurd ((on_lt (k := 10) (m := cn pkd (M * q)) (by omega) (by omega)).mp z) (by omega)
        obtain ⟨r, d, s, w', l', n', t1, t2⟩ := s_least (lane := lane) (position := position) (mleast := mleast) (least := least) (next := next) d0 s0 w0 hW q1 q8 m6 m48 (by omega) g5 hten
        have A : f_W_pickLength 2 (Int32.ofNat M) (Int32.ofNat q) gp pkd d0 s0 w0 least next o = some (0, d, s, w', l', n', vp_updL o (0 : Int32).toNatClampNeg r.toInt64) := by
          unfold f_W_pickLength f_X7_pickLength f_X7_pickLength_J68
          rw [n_range, if_pos h1, bnd1_s, mx_k, if_neg (show ¬ (2 : Int32) = 0 by decide), if_neg (show ¬ (2 : Int32) = 1 by decide), bc, bnd1_s, if_neg nt, n_needState, if_neg one_ne, bnd1_s, mx_k, t1, bnd6_s, bnd6_s, mx_k, gd_1 (by decide) (by decide)]
        rcases t2 with ⟨a, b⟩ | ⟨a, la, po, c, b⟩
        · refine ⟨0, d, s, w', l', n', _, r, lane, position, mleast, A, ?_, fun _ => rfl⟩
          unfold f_Y8_pickLength f_Y8_pickLength_J29 f_Y8_pickLength_J34
          rw [n_in, if_pos h1, bnd1_s, can_t, bnd2_s, if_neg one_ne, if_pos rfl, P, bnd1_s, if_neg nt, can_t, bnd2_s, if_neg one_ne, bnd1_s, if_pos (cz.mpr a), b]
        · refine ⟨0, d, s, w', l', n', _, r, la, po, c, A, ?_, fun _ => rfl⟩
          unfold f_Y8_pickLength f_Y8_pickLength_J29 f_Y8_pickLength_J34
          rw [n_in, if_pos h1, bnd1_s, can_t, bnd2_s, if_neg one_ne, if_pos rfl, P, bnd1_s, if_neg nt, can_t, bnd2_s, if_neg one_ne, bnd1_s, if_neg (fun z => a (cz.mp z)), if_pos rfl, b, bnd4_s]
      · have nt : (10 : Int32) < Int32.ofNat (cn pkd (M * q)) := (on_lt (k := 10) (m := cn pkd (M * q)) (by omega) (by omega)).mpr (by omega)
        refine ⟨2, d0, s0, w0, least, next, o, 0, lane, position, mleast, ?_, ?_, fun z => absurd z (by decide)⟩
        · unfold f_W_pickLength f_X7_pickLength f_X7_pickLength_J68
          rw [n_range, if_pos h1, bnd1_s, mx_k, if_neg (show ¬ (2 : Int32) = 0 by decide), if_neg (show ¬ (2 : Int32) = 1 by decide), bc, bnd1_s, if_pos nt, n_needState, if_pos rfl, bnd1_s, mx_f, bnd6_s, mx_f, if_neg (by decide), if_pos rfl]
        · unfold f_Y8_pickLength f_Y8_pickLength_J34
          rw [n_in, if_pos h1, bnd1_s, can_t, bnd2_s, if_neg one_ne, if_pos rfl, P, bnd1_s, if_pos nt, can_f, bnd2_s, if_pos rfl]
theorem bnd7_s {α1 α2 α3 α4 α5 α6 α7 δ : Type} {a : α1} {b : α2} {c : α3} {d : α4} {e : α5} {x : α6} {y : α7} {f : α1 → α2 → α3 → α4 → α5 → α6 → α7 → Option δ} : bnd7 (some (a, b, c, d, e, x, y)) f = f a b c d e x y := rfl
set_option maxRecDepth 4000 in
theorem cs_31 (PL : (Nat → Int32) → (Nat → Int32) → (Nat → Int32) → (Nat → Int64) → (Nat → Int64) → (Nat → Int32) → Prop) (cp1_acts : Int32) (cp1_nextSlot : Int32) (cp1_now_today : Int32) (cp1_now_products : Int32) (cp1_now_itemCount : Int32) (cp1_now_items : Nat → Int32) (cp1_now_books : Nat → Int32) (cp1_now_terms : Nat → Int32) (cp1_now_shelves_lanes : Int32) (cp1_now_shelves_positions : Int32) (cp1_now_shelves_room : Int32) (cp1_now_shelves_gap : Int32) (cp1_now_shelves_places : Int32) (cp1_now_shelves_picked : Int64) (cp1_now_shelves_lot : Nat → Int32) (cp1_now_shelves_pieces : Nat → Int32) (cp1_now_shelves_mark : Nat → Int32) (cp1_now_shelves_byDistance : Nat → Int32) (cp1_now_lots_count : Int32) (cp1_now_lots_product : Nat → Int32) (cp1_now_lots_last : Nat → Int32) (cp1_now_lots_cost : Nat → Int32) (cp1_now_lots_state : Nat → Int32) (cp1_now_lots_byLast : Nat → Int32) (cp1_now_orders_count : Int32) (cp1_now_orders_gifts : Int32) (cp1_now_orders_customer : Nat → Int32) (cp1_now_orders_product : Nat → Int32) (cp1_now_orders_open : Nat → Int32) (cp1_now_orders_due : Nat → Int32) (cp1_now_orders_life : Nat → Int32) (cp1_now_orders_byDue : Nat → Int32) (cp1_now_orders_had : Nat → Int32) (cp1_now_orders_stamps : Nat → Int32) (cp1_hk : Nat) (cp1_st : Nat → StT) (cp1_plan_terms : Nat → Int32) (cp1_plan_low : Nat → Int32) (cp1_plan_high : Nat → Int32) (cp1_plan_bottom : Nat → Int64) (cp1_plan_cost : Nat → Int64) (cp1_plan_act : Nat → Int32) (cp1_picker_deepest : Int32) (cp1_picker_shallowest : Int32) (cp1_picker_widest : Int32) (cp1_picker_least : Nat → Int32) (cp1_picker_next : Nat → Int32) (cp1_rest : Nat → Int32) (cp1_packed : Nat → Int32) (cp2_raised : Int32) (cp2_undos : Int32) (cp2_eldest : Int32) (cp2_w : Nat → Int32) (cp2_kept : Nat → Int32) (cp2_copy : Nat → Int32) (cp2_near : Nat → Int32) (cp2_isDone : Nat → Int32) (cp2_lane : Nat → Int32) (cp2_position : Nat → Int32) (cp2_least : Nat → Int32) (cp2_boxesOf : Nat → Int32) (cp2_staying : Nat → Int64) (cp2_planned : Nat → Int64) (cp2_scale : Nat → Int64) (cp3 : Nat → Int64) (v1 v2 v3 v4 v5 : Int32) (hR : RC PL (cp1_now_today, cp1_now_products, cp1_now_itemCount, cp1_now_items, cp1_now_books, cp1_now_terms, cp1_now_shelves_lanes, cp1_now_shelves_positions, cp1_now_shelves_room, cp1_now_shelves_gap, cp1_now_shelves_places, cp1_now_shelves_picked, cp1_now_shelves_lot, cp1_now_shelves_pieces, cp1_now_shelves_mark, cp1_now_shelves_byDistance, cp1_now_lots_count, cp1_now_lots_product, cp1_now_lots_last, cp1_now_lots_cost, cp1_now_lots_state, cp1_now_lots_byLast, cp1_now_orders_count, cp1_now_orders_gifts, cp1_now_orders_customer, cp1_now_orders_product, cp1_now_orders_open, cp1_now_orders_due, cp1_now_orders_life, cp1_now_orders_byDue, cp1_now_orders_had, cp1_now_orders_stamps) cp2_w cp2_near cp1_acts cp1_nextSlot cp1_hk cp1_st cp2_undos cp2_eldest cp2_kept cp1_plan_terms cp1_plan_low cp1_plan_high cp1_plan_bottom cp1_plan_cost cp1_plan_act) : ∃ z', f_c31 v1 v2 v3 v4 v5 (cp1_acts, cp1_nextSlot, cp1_now_today, cp1_now_products, cp1_now_itemCount, cp1_now_items, cp1_now_books, cp1_now_terms, cp1_now_shelves_lanes, cp1_now_shelves_positions, cp1_now_shelves_room, cp1_now_shelves_gap, cp1_now_shelves_places, cp1_now_shelves_picked, cp1_now_shelves_lot, cp1_now_shelves_pieces, cp1_now_shelves_mark, cp1_now_shelves_byDistance, cp1_now_lots_count, cp1_now_lots_product, cp1_now_lots_last, cp1_now_lots_cost, cp1_now_lots_state, cp1_now_lots_byLast, cp1_now_orders_count, cp1_now_orders_gifts, cp1_now_orders_customer, cp1_now_orders_product, cp1_now_orders_open, cp1_now_orders_due, cp1_now_orders_life, cp1_now_orders_byDue, cp1_now_orders_had, cp1_now_orders_stamps, cp1_hk, cp1_st, cp1_plan_terms, cp1_plan_low, cp1_plan_high, cp1_plan_bottom, cp1_plan_cost, cp1_plan_act, cp1_picker_deepest, cp1_picker_shallowest, cp1_picker_widest, cp1_picker_least, cp1_picker_next, cp1_rest, cp1_packed, cp2_raised, cp2_undos, cp2_eldest, cp2_w, cp2_kept, cp2_copy, cp2_near, cp2_isDone, cp2_lane, cp2_position, cp2_least, cp2_boxesOf, cp2_staying, cp2_planned, cp2_scale, cp3) = some z' ∧ R PL z' := by
  have hS := hR.1
  rw [RS_mk] at hS
  obtain ⟨a1, a2, a3, a4, a5, a6, a7, a8, a9, a10, a11, a12, a13, a14, a15⟩ := hS
  obtain ⟨k, d', s', w', l', n', o', b, la, po, c, h1, h2, h3⟩ := p_pickLength (v1 := v1) (cr := cp2_raised) (o := cp3) (d0 := cp1_picker_deepest) (s0 := cp1_picker_shallowest) (w0 := cp1_picker_widest) (least := cp1_picker_least) (next := cp1_picker_next) (lane := cp2_lane) (position := cp2_position) (mleast := cp2_least) a1 a4
  refine ⟨?w, ?h1, ?h2⟩
  case h1 =>
    rw [fc_31, h1, bnd7_s, h2, bnd5_s]
    simp only [bnd1, Option.bind_some, f_Y8_thrown]
    exact fin_ok2 h3
  case h2 => rw [R_mk]; exact hR
