/-! ===== signed ints as whole numbers, within bounds ===== -/
theorem fb_rng (x : Int32) : -2147483648 ≤ x.toInt ∧ x.toInt < 2147483648 := by
  have h1 := Int32.le_toInt x
  have h2 := Int32.toInt_lt x
  omega
theorem fb_bmod {z : Int} (h1 : -2147483648 ≤ z) (h2 : z < 2147483648) : z.bmod (2 ^ 32) = z := by
  rw [Int.bmod_eq_of_le (by omega) (by omega)]
theorem fb_addI {x y : Int32} (h1 : -2147483648 ≤ x.toInt + y.toInt) (h2 : x.toInt + y.toInt < 2147483648) : (x + y).toInt = x.toInt + y.toInt := by
  rw [Int32.toInt_add, fb_bmod h1 h2]
theorem fb_subI {x y : Int32} (h1 : -2147483648 ≤ x.toInt - y.toInt) (h2 : x.toInt - y.toInt < 2147483648) : (x - y).toInt = x.toInt - y.toInt := by
  rw [Int32.toInt_sub, fb_bmod h1 h2]
theorem fb_mulI {x y : Int32} (h1 : -2147483648 ≤ x.toInt * y.toInt) (h2 : x.toInt * y.toInt < 2147483648) : (x * y).toInt = x.toInt * y.toInt := by
  rw [Int32.toInt_mul, fb_bmod h1 h2]
theorem fb_negI {x : Int32} (h : x.toInt ≠ -2147483648) : (-x).toInt = -x.toInt := by
  have := fb_rng x
  rw [Int32.toInt_neg, fb_bmod (by omega) (by omega)]
theorem fb_ofI {z : Int} (h1 : -2147483648 ≤ z) (h2 : z < 2147483648) : (Int32.ofInt z).toInt = z := by
  rw [Int32.toInt_ofInt, fb_bmod h1 h2]
theorem fb_asI (x : Int32) : Int32.ofInt x.toInt = x := Int32.ofInt_toInt x
theorem fb_rngL (x : Int64) : -9223372036854775808 ≤ x.toInt ∧ x.toInt < 9223372036854775808 := by
  have h1 := Int64.le_toInt x
  have h2 := Int64.toInt_lt x
  omega
theorem fb_bmodL {z : Int} (h1 : -9223372036854775808 ≤ z) (h2 : z < 9223372036854775808) : z.bmod (2 ^ 64) = z := by
  rw [Int.bmod_eq_of_le (by omega) (by omega)]
theorem fb_addL {x y : Int64} (h1 : -9223372036854775808 ≤ x.toInt + y.toInt) (h2 : x.toInt + y.toInt < 9223372036854775808) : (x + y).toInt = x.toInt + y.toInt := by
  rw [Int64.toInt_add, fb_bmodL h1 h2]
theorem fb_subL {x y : Int64} (h1 : -9223372036854775808 ≤ x.toInt - y.toInt) (h2 : x.toInt - y.toInt < 9223372036854775808) : (x - y).toInt = x.toInt - y.toInt := by
  rw [Int64.toInt_sub, fb_bmodL h1 h2]
theorem fb_mulL {x y : Int64} (h1 : -9223372036854775808 ≤ x.toInt * y.toInt) (h2 : x.toInt * y.toInt < 9223372036854775808) : (x * y).toInt = x.toInt * y.toInt := by
  rw [Int64.toInt_mul, fb_bmodL h1 h2]
/-! ===== loops of the pure functions ===== -/
theorem lp_run {σ ε : Type} {f : σ → Option (σ ⊕ ε)} (Inv : σ → Prop) (Post : ε → Prop) (μ : σ → Nat) (h : ∀ s, Inv s → (∃ s', f s = some (.inl s') ∧ Inv s' ∧ μ s' < μ s) ∨ ∃ e, f s = some (.inr e) ∧ Post e) :
    ∀ n s, Inv s → μ s < n → ∃ e, loop f n s = some e ∧ Post e := by
  intro n
  induction n with
  | zero => intro s _ h2; exact absurd h2 (Nat.not_lt_zero _)
  | succ n ih =>
    intro s hi hm
    rcases h s hi with ⟨s', h1, h2, h3⟩ | ⟨e, h1, h2⟩
    · obtain ⟨e, h4, h5⟩ := ih s' h2 (by omega)
      exact ⟨e, by simp only [loop, h1]; exact h4, h5⟩
    · exact ⟨e, by simp only [loop, h1], h2⟩
/-- two loops side by side -/
theorem lp_rel {σ τ ε δ : Type} {f : σ → Option (σ ⊕ ε)} {g : τ → Option (τ ⊕ δ)} (Inv : σ → τ → Prop) (Post : ε → δ → Prop) (μ : σ → Nat)
    (h : ∀ s t, Inv s t → (∃ s' t', f s = some (.inl s') ∧ g t = some (.inl t') ∧ Inv s' t' ∧ μ s' < μ s) ∨ ∃ e d, f s = some (.inr e) ∧ g t = some (.inr d) ∧ Post e d) :
    ∀ n s t, Inv s t → μ s < n → ∃ e d, loop f n s = some e ∧ loop g n t = some d ∧ Post e d := by
  intro n
  induction n with
  | zero => intro s t _ h2; exact absurd h2 (Nat.not_lt_zero _)
  | succ n ih =>
    intro s t hi hm
    rcases h s t hi with ⟨s', t', h1, k1, h2, h3⟩ | ⟨e, d, h1, k1, h2⟩
    · obtain ⟨e, d, h4, k4, h5⟩ := ih s' t' h2 (by omega)
      exact ⟨e, d, by simp only [loop, h1]; exact h4, by simp only [loop, k1]; exact k4, h5⟩
    · exact ⟨e, d, by simp only [loop, h1], by simp only [loop, k1], h2⟩
theorem i_le {a b : Int32} : a ≤ b ↔ a.toInt ≤ b.toInt := Int32.le_iff_toInt_le
theorem i_lt {a b : Int32} : a < b ↔ a.toInt < b.toInt := Int32.lt_iff_toInt_lt
theorem i_eq {a b : Int32} : a = b ↔ a.toInt = b.toInt := Int32.toInt_inj.symm
theorem i_inc {a : Int32} (h : a.toInt < 2147483647) : (a + 1).toInt = a.toInt + 1 := by
  have h0 := fb_rng a
  have e : (1 : Int32).toInt = 1 := by decide
  rw [fb_addI (by rw [e]; omega) (by rw [e]; omega), e]
/-! ===== the calendar ===== -/
theorem dy_some (y : Int32) : ∃ r, f_X0_daysOfYear y = some r ∧ 365 ≤ r.toInt ∧ r.toInt ≤ 366 := by
  unfold f_X0_daysOfYear
  split
  · exact ⟨366, rfl, by decide, by decide⟩
  · exact ⟨365, rfl, by decide, by decide⟩
theorem dy_8 (y : Int32) : f_Y8_daysOfYear y = f_X0_daysOfYear y := rfl
theorem i_1_12 {m : Int32} (h1 : 1 ≤ m.toInt) (h2 : m.toInt ≤ 12) : m = 1 ∨ m = 2 ∨ m = 3 ∨ m = 4 ∨ m = 5 ∨ m = 6 ∨ m = 7 ∨ m = 8 ∨ m = 9 ∨ m = 10 ∨ m = 11 ∨ m = 12 := by
  simp only [i_eq]
  rw [show (1 : Int32).toInt = 1 from by decide, show (2 : Int32).toInt = 2 from by decide, show (3 : Int32).toInt = 3 from by decide, show (4 : Int32).toInt = 4 from by decide, show (5 : Int32).toInt = 5 from by decide, show (6 : Int32).toInt = 6 from by decide, show (7 : Int32).toInt = 7 from by decide, show (8 : Int32).toInt = 8 from by decide, show (9 : Int32).toInt = 9 from by decide, show (10 : Int32).toInt = 10 from by decide, show (11 : Int32).toInt = 11 from by decide, show (12 : Int32).toInt = 12 from by decide]
  omega
theorem dm_ok {y m : Int32} (h1 : 1 ≤ m.toInt) (h2 : m.toInt ≤ 12) : ∃ r, f_X0_daysOfMonth y m = some r ∧ f_Y8_daysOfMonth y m = some r ∧ 28 ≤ r.toInt ∧ r.toInt ≤ 31 := by
  by_cases hl : (y - y / 4 * 4) = 0
  · rcases i_1_12 h1 h2 with rfl | rfl | rfl | rfl | rfl | rfl | rfl | rfl | rfl | rfl | rfl | rfl
    case inr.inl => exact ⟨29, by unfold f_X0_daysOfMonth; rw [if_neg (by decide), if_pos (by decide), if_pos rfl, if_pos hl], by unfold f_Y8_daysOfMonth f_Y8_daysOfYear; rw [if_pos rfl, if_pos hl]; rfl, by decide, by decide⟩
    all_goals exact ⟨_, rfl, rfl, by decide, by decide⟩
  · rcases i_1_12 h1 h2 with rfl | rfl | rfl | rfl | rfl | rfl | rfl | rfl | rfl | rfl | rfl | rfl
    case inr.inl => exact ⟨28, by unfold f_X0_daysOfMonth; rw [if_neg (by decide), if_pos (by decide), if_pos rfl, if_neg hl]; rfl, by unfold f_Y8_daysOfMonth f_Y8_daysOfYear; rw [if_pos rfl, if_neg hl]; rfl, by decide, by decide⟩
    all_goals exact ⟨_, rfl, rfl, by decide, by decide⟩
theorem nd_years {y m c a : Int32} (h1 : 2024 ≤ y.toInt) (h2 : y.toInt ≤ 2030) : ∃ e, loop (fun z : Int32 × Int32 => f_X0_numberOf_L9 y m z.1 z.2) fu (a, 2024) = some e ∧ loop (fun z : Int32 × Int32 => f_Y8_dayOf_L61 y m c z.1 z.2) fu (a, 2024) = some e := by
  obtain ⟨e, d, q1, q2, q3⟩ := lp_rel (f := fun z : Int32 × Int32 => f_X0_numberOf_L9 y m z.1 z.2) (g := fun z : Int32 × Int32 => f_Y8_dayOf_L61 y m c z.1 z.2) (fun s t => t = s ∧ 2024 ≤ s.2.toInt ∧ s.2.toInt ≤ y.toInt) (fun e d => d = e) (fun s => (y.toInt - s.2.toInt).toNat) (by
    rintro x s ⟨rfl, g1, g2⟩
    by_cases hy : y ≤ s.2
    · exact Or.inr ⟨s.1, s.1, by simp only [f_X0_numberOf_L9, if_pos hy], by simp only [f_Y8_dayOf_L61, if_pos hy], rfl⟩
    · obtain ⟨r, hr, -⟩ := dy_some s.2
      have e1 := i_inc (a := s.2) (by omega)
      rw [i_le] at hy
      refine Or.inl ⟨(s.1 + r, s.2 + 1), (s.1 + r, s.2 + 1), ?_, ?_, ⟨rfl, ?_, ?_⟩, ?_⟩
      · simp only [f_X0_numberOf_L9, if_neg (fun z => hy (i_le.mp z)), hr]; rfl
      · simp only [f_Y8_dayOf_L61, if_neg (fun z => hy (i_le.mp z)), dy_8, hr]; rfl
      · show 2024 ≤ (s.2 + 1).toInt; omega
      · show (s.2 + 1).toInt ≤ y.toInt; omega
      · show (y.toInt - (s.2 + 1).toInt).toNat < (y.toInt - s.2.toInt).toNat; omega) fu (a, 2024) (a, 2024) ⟨rfl, (by show 2024 ≤ (2024 : Int32).toInt; decide), h1⟩ (by
        show (y.toInt - (2024 : Int32).toInt).toNat < fu
        have : (2024 : Int32).toInt = 2024 := by decide
        rw [this]; unfold fu; omega)
  exact ⟨e, q1, q3 ▸ q2⟩
theorem nd_months {y m c a : Int32} (h1 : 1 ≤ m.toInt) (h2 : m.toInt ≤ 12) : ∃ e, loop (fun z : Int32 × Int32 => f_X0_numberOf_L32 y m z.1 z.2) fu (a, 1) = some e ∧ loop (fun z : Int32 × Int32 => f_Y8_dayOf_L86 y m c z.1 z.2) fu (a, 1) = some e := by
  obtain ⟨e, d, q1, q2, q3⟩ := lp_rel (f := fun z : Int32 × Int32 => f_X0_numberOf_L32 y m z.1 z.2) (g := fun z : Int32 × Int32 => f_Y8_dayOf_L86 y m c z.1 z.2) (fun s t => t = s ∧ 1 ≤ s.2.toInt ∧ s.2.toInt ≤ m.toInt) (fun e d => d = e) (fun s => (m.toInt - s.2.toInt).toNat) (by
    rintro x s ⟨rfl, g1, g2⟩
    by_cases hy : m ≤ s.2
    · exact Or.inr ⟨s.1, s.1, by simp only [f_X0_numberOf_L32, if_pos hy], by simp only [f_Y8_dayOf_L86, if_pos hy], rfl⟩
    · obtain ⟨r, hr, hr8, -⟩ := dm_ok (y := y) (m := s.2) g1 (by omega)
      have e1 := i_inc (a := s.2) (by omega)
      rw [i_le] at hy
      refine Or.inl ⟨(s.1 + r, s.2 + 1), (s.1 + r, s.2 + 1), ?_, ?_, ⟨rfl, ?_, ?_⟩, ?_⟩
      · simp only [f_X0_numberOf_L32, if_neg (fun z => hy (i_le.mp z)), hr]; rfl
      · simp only [f_Y8_dayOf_L86, if_neg (fun z => hy (i_le.mp z)), hr8]; rfl
      · show 1 ≤ (s.2 + 1).toInt; omega
      · show (s.2 + 1).toInt ≤ m.toInt; omega
      · show (m.toInt - (s.2 + 1).toInt).toNat < (m.toInt - s.2.toInt).toNat; omega) fu (a, 1) (a, 1) ⟨rfl, (by show 1 ≤ (1 : Int32).toInt; decide), h1⟩ (by
        show (m.toInt - (1 : Int32).toInt).toNat < fu
        have : (1 : Int32).toInt = 1 := by decide
        rw [this]; unfold fu; omega)
  exact ⟨e, q1, q3 ▸ q2⟩
theorem in_t {v a b : Int32} (h1 : a.toInt ≤ v.toInt) (h2 : v.toInt ≤ b.toInt) : f_Y8_in v a b = some 1 := by
  unfold f_Y8_in
  rw [if_neg (fun z => by have := i_lt.mp z; omega), if_neg (fun z => by have := i_lt.mp z; omega)]
theorem in_f {v a b : Int32} (h : ¬ (a.toInt ≤ v.toInt ∧ v.toInt ≤ b.toInt)) : f_Y8_in v a b = some 0 := by
  unfold f_Y8_in
  by_cases h1 : v < a
  · rw [if_pos h1]
  · rw [if_neg h1, if_pos (by rw [i_lt] at h1 ⊢; omega)]
theorem nr_t {v a b : Int32} (h1 : a.toInt ≤ v.toInt) (h2 : v.toInt ≤ b.toInt) : f_X7_needRange v a b = some (.ok ()) := by
  unfold f_X7_needRange
  rw [if_neg (fun z => by have := i_lt.mp z; omega), if_pos (i_le.mpr h2)]
theorem nr_f {v a b : Int32} (h : ¬ (a.toInt ≤ v.toInt ∧ v.toInt ≤ b.toInt)) : f_X7_needRange v a b = some (.error "java/lang/IllegalArgumentException") := by
  unfold f_X7_needRange f_X7_needRange_J10
  by_cases h1 : v < a
  · rw [if_pos h1]
  · rw [if_neg h1, if_neg (by rw [i_le]; rw [i_lt] at h1; omega)]
theorem can_t {c x : Int32} : f_Y8_can 1 c x = some (1, 0) := by
  unfold f_Y8_can f_Y8_can_J10 gb
  rw [if_neg (by decide), if_pos (Or.inr rfl)]
theorem can_f {c x : Int32} : f_Y8_can 0 c x = some (0, c) := by
  unfold f_Y8_can f_Y8_can_J10 gb
  rw [if_pos rfl, if_pos (Or.inl rfl)]
theorem dm_no {y m : Int32} (h : ¬ (1 ≤ m.toInt ∧ m.toInt ≤ 12)) : f_X0_daysOfMonth y m = some 0 := by
  have e1 : (1 : Int32).toInt = 1 := by decide
  have e2 : (12 : Int32).toInt = 12 := by decide
  unfold f_X0_daysOfMonth
  by_cases h1 : m < 1
  · rw [if_pos h1]
  · rw [if_neg h1, if_neg (by rw [i_le]; rw [i_lt] at h1; omega)]
/-- the law's wrapper and the model answer alike: the model's mark is k, and where k = 0 the answers are one number -/
theorem pa_dayOf (v1 v2 v3 c : Int32) (o : Nat → Int64) : ∃ k o' b, f_W_dayOf v1 v2 v3 o = some (k, o') ∧ f_Y8_dayOf v1 v2 v3 c = some (b, k) ∧ (k = 0 → o' 0 = b.toInt64) := by
  have e0 : (0 : Int32).toInt = 0 := by decide
  have e1 : (1 : Int32).toInt = 1 := by decide
  have e2 : (12 : Int32).toInt = 12 := by decide
  have e3 : (2024 : Int32).toInt = 2024 := by decide
  have e4 : (2030 : Int32).toInt = 2030 := by decide
  have hno : f_Y8_dayOf_J41 v1 v2 v3 c = some (0, 1) := by
    unfold f_Y8_dayOf_J41 f_Y8_dayOf_J42
    rw [can_f]
    rfl
  have hL : f_X7_dayOf v1 v2 v3 = some (.error "java/lang/IllegalArgumentException") → f_W_dayOf v1 v2 v3 o = some (1, o) := by
    intro h
    unfold f_W_dayOf
    rw [h]
    rfl
  by_cases h1 : 2024 ≤ v1.toInt ∧ v1.toInt ≤ 2030
  · have a1 : f_X7_needRange v1 2024 2030 = some (.ok ()) := nr_t (by omega) (by omega)
    have b1 : f_Y8_in v1 2024 2030 = some 1 := in_t (by omega) (by omega)
    by_cases h2 : 1 ≤ v2.toInt ∧ v2.toInt ≤ 12
    · have b2 : f_Y8_in v2 1 12 = some 1 := in_t (by omega) (by omega)
      obtain ⟨r, hr, hr8, hlo, hhi⟩ := dm_ok (y := v1) h2.1 h2.2
      by_cases h3 : 1 ≤ v3.toInt ∧ v3.toInt ≤ r.toInt
      · have a3 : f_X7_needRange v3 1 r = some (.ok ()) := nr_t (by omega) (by omega)
        have b3 : f_Y8_in v3 1 r = some 1 := in_t (by omega) (by omega)
        obtain ⟨x, hx, hx8⟩ := nd_years (y := v1) (m := v2) (c := 0) (a := v3 - 1) h1.1 h1.2
        obtain ⟨z, hz, hz8⟩ := nd_months (y := v1) (m := v2) (c := 0) (a := x) h2.1 h2.2
        refine ⟨0, vp_updL o (0 : Int32).toNatClampNeg z.toInt64, z, ?_, ?_, ?_⟩
        · unfold f_W_dayOf f_X7_dayOf f_X0_numberOf
          rw [a1, hr]
          simp only [bnd1, Option.bind_some, mx]
          rw [a3]
          simp only [Option.bind_some]
          rw [hx]
          simp only [Option.bind_some]
          rw [hz]
          rfl
        · unfold f_Y8_dayOf
          rw [b1, b2, hr8]
          simp only [bnd1, Option.bind_some]
          rw [if_neg (by decide), if_neg (by decide), b3]
          simp only [Option.bind_some]
          rw [if_neg (by decide)]
          unfold f_Y8_dayOf_J42
          rw [can_t]
          simp only [bnd2, bnd1, Option.bind_some]
          rw [if_neg (by decide), hx8]
          simp only [Option.bind_some]
          rw [hz8]
          rfl
        · intro _
          rfl
      · have a3 : f_X7_needRange v3 1 r = some (.error "java/lang/IllegalArgumentException") := nr_f (by rw [e1]; exact h3)
        have b3 : f_Y8_in v3 1 r = some 0 := in_f (by rw [e1]; exact h3)
        refine ⟨1, o, 0, hL ?_, ?_, fun h => absurd h (by decide)⟩
        · unfold f_X7_dayOf
          rw [a1, hr]
          simp only [bnd1, Option.bind_some, mx]
          rw [a3]
          rfl
        · unfold f_Y8_dayOf
          rw [b1, b2, hr8]
          simp only [bnd1, Option.bind_some]
          rw [if_neg (by decide), if_neg (by decide), b3]
          simp only [Option.bind_some]
          rw [if_pos trivial]
          exact hno
    · have b2 : f_Y8_in v2 1 12 = some 0 := in_f (by rw [e1, e2]; exact h2)
      have hr := dm_no (y := v1) h2
      have a3 : f_X7_needRange v3 1 0 = some (.error "java/lang/IllegalArgumentException") := nr_f (by rw [e1, e0]; omega)
      refine ⟨1, o, 0, hL ?_, ?_, fun h => absurd h (by decide)⟩
      · unfold f_X7_dayOf
        rw [a1, hr]
        simp only [bnd1, Option.bind_some, mx]
        rw [a3]
        rfl
      · unfold f_Y8_dayOf
        rw [b1, b2]
        simp only [bnd1, Option.bind_some]
        rw [if_neg (by decide), if_pos trivial]
        exact hno
  · have a1 : f_X7_needRange v1 2024 2030 = some (.error "java/lang/IllegalArgumentException") := nr_f (by rw [e3, e4]; exact h1)
    have b1 : f_Y8_in v1 2024 2030 = some 0 := in_f (by rw [e3, e4]; exact h1)
    refine ⟨1, o, 0, hL ?_, ?_, fun h => absurd h (by decide)⟩
    · unfold f_X7_dayOf
      rw [a1]
      rfl
    · unfold f_Y8_dayOf
      rw [b1]
      simp only [bnd1, Option.bind_some]
      rw [if_pos trivial]
      exact hno
def YI (s : Int32 × Int32) : Prop := 0 ≤ s.1.toInt ∧ ((s.2 = 2024 ∧ s.1.toInt ≤ 2556) ∨ (s.2 = 2025 ∧ s.1.toInt ≤ 2190) ∨ (s.2 = 2026 ∧ s.1.toInt ≤ 1825) ∨ (s.2 = 2027 ∧ s.1.toInt ≤ 1460) ∨ (s.2 = 2028 ∧ s.1.toInt ≤ 1095) ∨ (s.2 = 2029 ∧ s.1.toInt ≤ 729) ∨ (s.2 = 2030 ∧ s.1.toInt ≤ 364))
theorem dd_years {c v : Int32} (h1 : 0 ≤ v.toInt) (h2 : v.toInt ≤ 2556) : ∃ e : Int32 × Int32, loop (fun z : Int32 × Int32 => f_X0_dateAt_L6 z.1 z.2) fu (v, 2024) = some e ∧ loop (fun z : Int32 × Int32 => f_Y8_dateOf_L24 c z.1 z.2) fu (v, 2024) = some e ∧ 0 ≤ e.1.toInt ∧ ∃ r, f_X0_daysOfYear e.2 = some r ∧ e.1.toInt < r.toInt := by
  have e5 : (365 : Int32).toInt = 365 := by decide
  have e6 : (366 : Int32).toInt = 366 := by decide
  obtain ⟨e, d, q1, q2, q3, q4⟩ := lp_rel (f := fun z : Int32 × Int32 => f_X0_dateAt_L6 z.1 z.2) (g := fun z : Int32 × Int32 => f_Y8_dateOf_L24 c z.1 z.2) (fun s t => t = s ∧ YI s) (fun e d => d = e ∧ 0 ≤ e.1.toInt ∧ ∃ r, f_X0_daysOfYear e.2 = some r ∧ e.1.toInt < r.toInt) (fun s => (2030 - s.2.toInt).toNat) (by
    rintro ⟨n, y⟩ t ⟨rfl, g0, g⟩
    dsimp only at g0 g
    rcases g with ⟨rfl, g⟩ | ⟨rfl, g⟩ | ⟨rfl, g⟩ | ⟨rfl, g⟩ | ⟨rfl, g⟩ | ⟨rfl, g⟩ | ⟨rfl, g⟩
    · have hy : f_X0_daysOfYear 2024 = some 366 := rfl
      by_cases hn : n < 366
      · refine Or.inr ⟨(n, 2024), (n, 2024), ?_, ?_, rfl, g0, 366, hy, i_lt.mp hn⟩
        · simp only [f_X0_dateAt_L6]
          rw [if_neg (by decide), hy]
          simp only [bnd1, Option.bind_some]
          rw [if_pos hn]
        · simp only [f_Y8_dateOf_L24, dy_8]
          rw [hy]
          simp only [bnd1, Option.bind_some]
          rw [if_pos hn]
      · have hn' := hn
        rw [i_lt] at hn'
        have hs : (n - 366).toInt = n.toInt - 366 := by rw [fb_subI (by omega) (by omega)]; omega
        refine Or.inl ⟨(n - 366, 2025), (n - 366, 2025), ?_, ?_, ⟨rfl, ?_, ?_⟩, ?_⟩
        · simp only [f_X0_dateAt_L6]
          rw [if_neg (by decide), hy]
          simp only [bnd1, Option.bind_some]
          rw [if_neg hn]
          rfl
        · simp only [f_Y8_dateOf_L24, dy_8]
          rw [hy]
          simp only [bnd1, Option.bind_some]
          rw [if_neg hn]
          rfl
        · show 0 ≤ (n - 366).toInt
          omega
        · exact Or.inr (Or.inl ⟨rfl, by show (n - 366).toInt ≤ _; omega⟩)
        · (dsimp only; decide)
    · have hy : f_X0_daysOfYear 2025 = some 365 := rfl
      by_cases hn : n < 365
      · refine Or.inr ⟨(n, 2025), (n, 2025), ?_, ?_, rfl, g0, 365, hy, i_lt.mp hn⟩
        · simp only [f_X0_dateAt_L6]
          rw [if_neg (by decide), hy]
          simp only [bnd1, Option.bind_some]
          rw [if_pos hn]
        · simp only [f_Y8_dateOf_L24, dy_8]
          rw [hy]
          simp only [bnd1, Option.bind_some]
          rw [if_pos hn]
      · have hn' := hn
        rw [i_lt] at hn'
        have hs : (n - 365).toInt = n.toInt - 365 := by rw [fb_subI (by omega) (by omega)]; omega
        refine Or.inl ⟨(n - 365, 2026), (n - 365, 2026), ?_, ?_, ⟨rfl, ?_, ?_⟩, ?_⟩
        · simp only [f_X0_dateAt_L6]
          rw [if_neg (by decide), hy]
          simp only [bnd1, Option.bind_some]
          rw [if_neg hn]
          rfl
        · simp only [f_Y8_dateOf_L24, dy_8]
          rw [hy]
          simp only [bnd1, Option.bind_some]
          rw [if_neg hn]
          rfl
        · show 0 ≤ (n - 365).toInt
          omega
        · exact Or.inr (Or.inr (Or.inl ⟨rfl, by show (n - 365).toInt ≤ _; omega⟩))
        · (dsimp only; decide)
    · have hy : f_X0_daysOfYear 2026 = some 365 := rfl
      by_cases hn : n < 365
      · refine Or.inr ⟨(n, 2026), (n, 2026), ?_, ?_, rfl, g0, 365, hy, i_lt.mp hn⟩
        · simp only [f_X0_dateAt_L6]
          rw [if_neg (by decide), hy]
          simp only [bnd1, Option.bind_some]
          rw [if_pos hn]
        · simp only [f_Y8_dateOf_L24, dy_8]
          rw [hy]
          simp only [bnd1, Option.bind_some]
          rw [if_pos hn]
      · have hn' := hn
        rw [i_lt] at hn'
        have hs : (n - 365).toInt = n.toInt - 365 := by rw [fb_subI (by omega) (by omega)]; omega
        refine Or.inl ⟨(n - 365, 2027), (n - 365, 2027), ?_, ?_, ⟨rfl, ?_, ?_⟩, ?_⟩
        · simp only [f_X0_dateAt_L6]
          rw [if_neg (by decide), hy]
          simp only [bnd1, Option.bind_some]
          rw [if_neg hn]
          rfl
        · simp only [f_Y8_dateOf_L24, dy_8]
          rw [hy]
          simp only [bnd1, Option.bind_some]
          rw [if_neg hn]
          rfl
        · show 0 ≤ (n - 365).toInt
          omega
        · exact Or.inr (Or.inr (Or.inr (Or.inl ⟨rfl, by show (n - 365).toInt ≤ _; omega⟩)))
        · (dsimp only; decide)
    · have hy : f_X0_daysOfYear 2027 = some 365 := rfl
      by_cases hn : n < 365
      · refine Or.inr ⟨(n, 2027), (n, 2027), ?_, ?_, rfl, g0, 365, hy, i_lt.mp hn⟩
        · simp only [f_X0_dateAt_L6]
          rw [if_neg (by decide), hy]
          simp only [bnd1, Option.bind_some]
          rw [if_pos hn]
        · simp only [f_Y8_dateOf_L24, dy_8]
          rw [hy]
          simp only [bnd1, Option.bind_some]
          rw [if_pos hn]
      · have hn' := hn
        rw [i_lt] at hn'
        have hs : (n - 365).toInt = n.toInt - 365 := by rw [fb_subI (by omega) (by omega)]; omega
        refine Or.inl ⟨(n - 365, 2028), (n - 365, 2028), ?_, ?_, ⟨rfl, ?_, ?_⟩, ?_⟩
        · simp only [f_X0_dateAt_L6]
          rw [if_neg (by decide), hy]
          simp only [bnd1, Option.bind_some]
          rw [if_neg hn]
          rfl
        · simp only [f_Y8_dateOf_L24, dy_8]
          rw [hy]
          simp only [bnd1, Option.bind_some]
          rw [if_neg hn]
          rfl
        · show 0 ≤ (n - 365).toInt
          omega
        · exact Or.inr (Or.inr (Or.inr (Or.inr (Or.inl ⟨rfl, by show (n - 365).toInt ≤ _; omega⟩))))
        · (dsimp only; decide)
    · have hy : f_X0_daysOfYear 2028 = some 366 := rfl
      by_cases hn : n < 366
      · refine Or.inr ⟨(n, 2028), (n, 2028), ?_, ?_, rfl, g0, 366, hy, i_lt.mp hn⟩
        · simp only [f_X0_dateAt_L6]
          rw [if_neg (by decide), hy]
          simp only [bnd1, Option.bind_some]
          rw [if_pos hn]
        · simp only [f_Y8_dateOf_L24, dy_8]
          rw [hy]
          simp only [bnd1, Option.bind_some]
          rw [if_pos hn]
      · have hn' := hn
        rw [i_lt] at hn'
        have hs : (n - 366).toInt = n.toInt - 366 := by rw [fb_subI (by omega) (by omega)]; omega
        refine Or.inl ⟨(n - 366, 2029), (n - 366, 2029), ?_, ?_, ⟨rfl, ?_, ?_⟩, ?_⟩
        · simp only [f_X0_dateAt_L6]
          rw [if_neg (by decide), hy]
          simp only [bnd1, Option.bind_some]
          rw [if_neg hn]
          rfl
        · simp only [f_Y8_dateOf_L24, dy_8]
          rw [hy]
          simp only [bnd1, Option.bind_some]
          rw [if_neg hn]
          rfl
        · show 0 ≤ (n - 366).toInt
          omega
        · exact Or.inr (Or.inr (Or.inr (Or.inr (Or.inr (Or.inl ⟨rfl, by show (n - 366).toInt ≤ _; omega⟩)))))
        · (dsimp only; decide)
    · have hy : f_X0_daysOfYear 2029 = some 365 := rfl
      by_cases hn : n < 365
      · refine Or.inr ⟨(n, 2029), (n, 2029), ?_, ?_, rfl, g0, 365, hy, i_lt.mp hn⟩
        · simp only [f_X0_dateAt_L6]
          rw [if_neg (by decide), hy]
          simp only [bnd1, Option.bind_some]
          rw [if_pos hn]
        · simp only [f_Y8_dateOf_L24, dy_8]
          rw [hy]
          simp only [bnd1, Option.bind_some]
          rw [if_pos hn]
      · have hn' := hn
        rw [i_lt] at hn'
        have hs : (n - 365).toInt = n.toInt - 365 := by rw [fb_subI (by omega) (by omega)]; omega
        refine Or.inl ⟨(n - 365, 2030), (n - 365, 2030), ?_, ?_, ⟨rfl, ?_, ?_⟩, ?_⟩
        · simp only [f_X0_dateAt_L6]
          rw [if_neg (by decide), hy]
          simp only [bnd1, Option.bind_some]
          rw [if_neg hn]
          rfl
        · simp only [f_Y8_dateOf_L24, dy_8]
          rw [hy]
          simp only [bnd1, Option.bind_some]
          rw [if_neg hn]
          rfl
        · show 0 ≤ (n - 365).toInt
          omega
        · exact Or.inr (Or.inr (Or.inr (Or.inr (Or.inr (Or.inr (⟨rfl, by show (n - 365).toInt ≤ _; omega⟩))))))
        · (dsimp only; decide)
    · have hy : f_X0_daysOfYear 2030 = some 365 := rfl
      by_cases hn : n < 365
      · refine Or.inr ⟨(n, 2030), (n, 2030), ?_, ?_, rfl, g0, 365, hy, i_lt.mp hn⟩
        · simp only [f_X0_dateAt_L6]
          rw [if_pos (by decide)]
        · simp only [f_Y8_dateOf_L24, dy_8]
          rw [hy]
          simp only [bnd1, Option.bind_some]
          rw [if_pos hn]
      · rw [i_lt] at hn
        omega) fu (v, 2024) (v, 2024) ⟨rfl, h1, Or.inl ⟨rfl, h2⟩⟩ (by show (2030 - (2024 : Int32).toInt).toNat < fu; decide)
  exact ⟨e, q1, q3 ▸ q2, q4⟩
def MI (r : Int32) (s : Int32 × Int32) : Prop := 0 ≤ s.1.toInt ∧ ((s.2 = 1 ∧ s.1.toInt < r.toInt) ∨ (s.2 = 2 ∧ s.1.toInt < r.toInt - 31) ∨ (s.2 = 3 ∧ s.1.toInt < 306) ∨ (s.2 = 4 ∧ s.1.toInt < 275) ∨ (s.2 = 5 ∧ s.1.toInt < 245) ∨ (s.2 = 6 ∧ s.1.toInt < 214) ∨ (s.2 = 7 ∧ s.1.toInt < 184) ∨ (s.2 = 8 ∧ s.1.toInt < 153) ∨ (s.2 = 9 ∧ s.1.toInt < 122) ∨ (s.2 = 10 ∧ s.1.toInt < 92) ∨ (s.2 = 11 ∧ s.1.toInt < 61) ∨ (s.2 = 12 ∧ s.1.toInt < 31))
theorem dm_2 {y r : Int32} (h : f_X0_daysOfYear y = some r) : f_X0_daysOfMonth y 2 = some (r - 337) ∧ f_Y8_daysOfMonth y 2 = some (r - 337) ∧ (r - 337).toInt = r.toInt - 337 ∧ 365 ≤ r.toInt ∧ r.toInt ≤ 366 := by
  unfold f_X0_daysOfYear at h
  by_cases hl : (y - y / 4 * 4) = 0
  · rw [if_pos hl] at h
    cases h
    exact ⟨by unfold f_X0_daysOfMonth; rw [if_neg (by decide), if_pos (by decide), if_pos rfl, if_pos hl]; rfl, by unfold f_Y8_daysOfMonth f_Y8_daysOfYear; rw [if_pos rfl, if_pos hl]; rfl, by decide, by decide, by decide⟩
  · rw [if_neg hl] at h
    cases h
    exact ⟨by unfold f_X0_daysOfMonth; rw [if_neg (by decide), if_pos (by decide), if_pos rfl, if_neg hl]; rfl, by unfold f_Y8_daysOfMonth f_Y8_daysOfYear; rw [if_pos rfl, if_neg hl]; rfl, by decide, by decide, by decide⟩
theorem dd_months {c v y r : Int32} (h1 : 0 ≤ v.toInt) (hr : f_X0_daysOfYear y = some r) (h2 : v.toInt < r.toInt) : ∃ e : Int32 × Int32, loop (fun z : Int32 × Int32 => f_X0_dateAt_L36 y z.1 z.2) fu (v, 1) = some e ∧ loop (fun z : Int32 × Int32 => f_Y8_dateOf_L48 y c z.1 z.2) fu (v, 1) = some e := by
  obtain ⟨f2, f28, fe, fl, fh⟩ := dm_2 hr
  have e0 : (30 : Int32).toInt = 30 := by decide
  have e1 : (31 : Int32).toInt = 31 := by decide
  obtain ⟨e, d, q1, q2, q3⟩ := lp_rel (f := fun z : Int32 × Int32 => f_X0_dateAt_L36 y z.1 z.2) (g := fun z : Int32 × Int32 => f_Y8_dateOf_L48 y c z.1 z.2) (fun s t => t = s ∧ MI r s) (fun e d => d = e) (fun s => (12 - s.2.toInt).toNat) (by
    rintro ⟨n, m⟩ t ⟨rfl, g0, g⟩
    dsimp only at g0 g
    rcases g with ⟨rfl, g⟩ | ⟨rfl, g⟩ | ⟨rfl, g⟩ | ⟨rfl, g⟩ | ⟨rfl, g⟩ | ⟨rfl, g⟩ | ⟨rfl, g⟩ | ⟨rfl, g⟩ | ⟨rfl, g⟩ | ⟨rfl, g⟩ | ⟨rfl, g⟩ | ⟨rfl, g⟩
    · have hm : f_X0_daysOfMonth y 1 = some 31 := rfl
      have hm8 : f_Y8_daysOfMonth y 1 = some 31 := rfl
      by_cases hn : n < 31
      · refine Or.inr ⟨(n, 1), (n, 1), ?_, ?_, rfl⟩
        · simp only [f_X0_dateAt_L36]
          rw [if_neg (by decide), hm]
          simp only [bnd1, Option.bind_some]
          rw [if_pos hn]
        · simp only [f_Y8_dateOf_L48]
          rw [hm8]
          simp only [bnd1, Option.bind_some]
          rw [if_pos hn]
      · have hn' := hn
        rw [i_lt] at hn'
        have hs : (n - 31).toInt = n.toInt - (31 : Int32).toInt := by rw [fb_subI (by omega) (by omega)]
        refine Or.inl ⟨(n - 31, 2), (n - 31, 2), ?_, ?_, ⟨rfl, ?_, ?_⟩, ?_⟩
        · simp only [f_X0_dateAt_L36]
          rw [if_neg (by decide), hm]
          simp only [bnd1, Option.bind_some]
          rw [if_neg hn]
          rfl
        · simp only [f_Y8_dateOf_L48]
          rw [hm8]
          simp only [bnd1, Option.bind_some]
          rw [if_neg hn]
          rfl
        · show 0 ≤ (n - 31).toInt
          omega
        · exact Or.inr (Or.inl ⟨rfl, by show (n - 31).toInt < _; omega⟩)
        · (dsimp only; decide)
    · have hm := f2
      have hm8 := f28
      by_cases hn : n < (r - 337)
      · refine Or.inr ⟨(n, 2), (n, 2), ?_, ?_, rfl⟩
        · simp only [f_X0_dateAt_L36]
          rw [if_neg (by decide), hm]
          simp only [bnd1, Option.bind_some]
          rw [if_pos hn]
        · simp only [f_Y8_dateOf_L48]
          rw [hm8]
          simp only [bnd1, Option.bind_some]
          rw [if_pos hn]
      · have hn' := hn
        rw [i_lt] at hn'
        have hs : (n - (r - 337)).toInt = n.toInt - (r - 337).toInt := by rw [fb_subI (by omega) (by omega)]
        refine Or.inl ⟨(n - (r - 337), 3), (n - (r - 337), 3), ?_, ?_, ⟨rfl, ?_, ?_⟩, ?_⟩
        · simp only [f_X0_dateAt_L36]
          rw [if_neg (by decide), hm]
          simp only [bnd1, Option.bind_some]
          rw [if_neg hn]
          rfl
        · simp only [f_Y8_dateOf_L48]
          rw [hm8]
          simp only [bnd1, Option.bind_some]
          rw [if_neg hn]
          rfl
        · show 0 ≤ (n - (r - 337)).toInt
          omega
        · exact Or.inr (Or.inr (Or.inl ⟨rfl, by show (n - (r - 337)).toInt < _; omega⟩))
        · (dsimp only; decide)
    · have hm : f_X0_daysOfMonth y 3 = some 31 := rfl
      have hm8 : f_Y8_daysOfMonth y 3 = some 31 := rfl
      by_cases hn : n < 31
      · refine Or.inr ⟨(n, 3), (n, 3), ?_, ?_, rfl⟩
        · simp only [f_X0_dateAt_L36]
          rw [if_neg (by decide), hm]
          simp only [bnd1, Option.bind_some]
          rw [if_pos hn]
        · simp only [f_Y8_dateOf_L48]
          rw [hm8]
          simp only [bnd1, Option.bind_some]
          rw [if_pos hn]
      · have hn' := hn
        rw [i_lt] at hn'
        have hs : (n - 31).toInt = n.toInt - (31 : Int32).toInt := by rw [fb_subI (by omega) (by omega)]
        refine Or.inl ⟨(n - 31, 4), (n - 31, 4), ?_, ?_, ⟨rfl, ?_, ?_⟩, ?_⟩
        · simp only [f_X0_dateAt_L36]
          rw [if_neg (by decide), hm]
          simp only [bnd1, Option.bind_some]
          rw [if_neg hn]
          rfl
        · simp only [f_Y8_dateOf_L48]
          rw [hm8]
          simp only [bnd1, Option.bind_some]
          rw [if_neg hn]
          rfl
        · show 0 ≤ (n - 31).toInt
          omega
        · exact Or.inr (Or.inr (Or.inr (Or.inl ⟨rfl, by show (n - 31).toInt < _; omega⟩)))
        · (dsimp only; decide)
    · have hm : f_X0_daysOfMonth y 4 = some 30 := rfl
      have hm8 : f_Y8_daysOfMonth y 4 = some 30 := rfl
      by_cases hn : n < 30
      · refine Or.inr ⟨(n, 4), (n, 4), ?_, ?_, rfl⟩
        · simp only [f_X0_dateAt_L36]
          rw [if_neg (by decide), hm]
          simp only [bnd1, Option.bind_some]
          rw [if_pos hn]
        · simp only [f_Y8_dateOf_L48]
          rw [hm8]
          simp only [bnd1, Option.bind_some]
          rw [if_pos hn]
      · have hn' := hn
        rw [i_lt] at hn'
        have hs : (n - 30).toInt = n.toInt - (30 : Int32).toInt := by rw [fb_subI (by omega) (by omega)]
        refine Or.inl ⟨(n - 30, 5), (n - 30, 5), ?_, ?_, ⟨rfl, ?_, ?_⟩, ?_⟩
        · simp only [f_X0_dateAt_L36]
          rw [if_neg (by decide), hm]
          simp only [bnd1, Option.bind_some]
          rw [if_neg hn]
          rfl
        · simp only [f_Y8_dateOf_L48]
          rw [hm8]
          simp only [bnd1, Option.bind_some]
          rw [if_neg hn]
          rfl
        · show 0 ≤ (n - 30).toInt
          omega
        · exact Or.inr (Or.inr (Or.inr (Or.inr (Or.inl ⟨rfl, by show (n - 30).toInt < _; omega⟩))))
        · (dsimp only; decide)
    · have hm : f_X0_daysOfMonth y 5 = some 31 := rfl
      have hm8 : f_Y8_daysOfMonth y 5 = some 31 := rfl
      by_cases hn : n < 31
      · refine Or.inr ⟨(n, 5), (n, 5), ?_, ?_, rfl⟩
        · simp only [f_X0_dateAt_L36]
          rw [if_neg (by decide), hm]
          simp only [bnd1, Option.bind_some]
          rw [if_pos hn]
        · simp only [f_Y8_dateOf_L48]
          rw [hm8]
          simp only [bnd1, Option.bind_some]
          rw [if_pos hn]
      · have hn' := hn
        rw [i_lt] at hn'
        have hs : (n - 31).toInt = n.toInt - (31 : Int32).toInt := by rw [fb_subI (by omega) (by omega)]
        refine Or.inl ⟨(n - 31, 6), (n - 31, 6), ?_, ?_, ⟨rfl, ?_, ?_⟩, ?_⟩
        · simp only [f_X0_dateAt_L36]
          rw [if_neg (by decide), hm]
          simp only [bnd1, Option.bind_some]
          rw [if_neg hn]
          rfl
        · simp only [f_Y8_dateOf_L48]
          rw [hm8]
          simp only [bnd1, Option.bind_some]
          rw [if_neg hn]
          rfl
        · show 0 ≤ (n - 31).toInt
          omega
        · exact Or.inr (Or.inr (Or.inr (Or.inr (Or.inr (Or.inl ⟨rfl, by show (n - 31).toInt < _; omega⟩)))))
        · (dsimp only; decide)
    · have hm : f_X0_daysOfMonth y 6 = some 30 := rfl
      have hm8 : f_Y8_daysOfMonth y 6 = some 30 := rfl
      by_cases hn : n < 30
      · refine Or.inr ⟨(n, 6), (n, 6), ?_, ?_, rfl⟩
        · simp only [f_X0_dateAt_L36]
          rw [if_neg (by decide), hm]
          simp only [bnd1, Option.bind_some]
          rw [if_pos hn]
        · simp only [f_Y8_dateOf_L48]
          rw [hm8]
          simp only [bnd1, Option.bind_some]
          rw [if_pos hn]
      · have hn' := hn
        rw [i_lt] at hn'
        have hs : (n - 30).toInt = n.toInt - (30 : Int32).toInt := by rw [fb_subI (by omega) (by omega)]
        refine Or.inl ⟨(n - 30, 7), (n - 30, 7), ?_, ?_, ⟨rfl, ?_, ?_⟩, ?_⟩
        · simp only [f_X0_dateAt_L36]
          rw [if_neg (by decide), hm]
          simp only [bnd1, Option.bind_some]
          rw [if_neg hn]
          rfl
        · simp only [f_Y8_dateOf_L48]
          rw [hm8]
          simp only [bnd1, Option.bind_some]
          rw [if_neg hn]
          rfl
        · show 0 ≤ (n - 30).toInt
          omega
        · exact Or.inr (Or.inr (Or.inr (Or.inr (Or.inr (Or.inr (Or.inl ⟨rfl, by show (n - 30).toInt < _; omega⟩))))))
        · (dsimp only; decide)
    · have hm : f_X0_daysOfMonth y 7 = some 31 := rfl
      have hm8 : f_Y8_daysOfMonth y 7 = some 31 := rfl
      by_cases hn : n < 31
      · refine Or.inr ⟨(n, 7), (n, 7), ?_, ?_, rfl⟩
        · simp only [f_X0_dateAt_L36]
          rw [if_neg (by decide), hm]
          simp only [bnd1, Option.bind_some]
          rw [if_pos hn]
        · simp only [f_Y8_dateOf_L48]
          rw [hm8]
          simp only [bnd1, Option.bind_some]
          rw [if_pos hn]
      · have hn' := hn
        rw [i_lt] at hn'
        have hs : (n - 31).toInt = n.toInt - (31 : Int32).toInt := by rw [fb_subI (by omega) (by omega)]
        refine Or.inl ⟨(n - 31, 8), (n - 31, 8), ?_, ?_, ⟨rfl, ?_, ?_⟩, ?_⟩
        · simp only [f_X0_dateAt_L36]
          rw [if_neg (by decide), hm]
          simp only [bnd1, Option.bind_some]
          rw [if_neg hn]
          rfl
        · simp only [f_Y8_dateOf_L48]
          rw [hm8]
          simp only [bnd1, Option.bind_some]
          rw [if_neg hn]
          rfl
        · show 0 ≤ (n - 31).toInt
          omega
        · exact Or.inr (Or.inr (Or.inr (Or.inr (Or.inr (Or.inr (Or.inr (Or.inl ⟨rfl, by show (n - 31).toInt < _; omega⟩)))))))
        · (dsimp only; decide)
    · have hm : f_X0_daysOfMonth y 8 = some 31 := rfl
      have hm8 : f_Y8_daysOfMonth y 8 = some 31 := rfl
      by_cases hn : n < 31
      · refine Or.inr ⟨(n, 8), (n, 8), ?_, ?_, rfl⟩
        · simp only [f_X0_dateAt_L36]
          rw [if_neg (by decide), hm]
          simp only [bnd1, Option.bind_some]
          rw [if_pos hn]
        · simp only [f_Y8_dateOf_L48]
          rw [hm8]
          simp only [bnd1, Option.bind_some]
          rw [if_pos hn]
      · have hn' := hn
        rw [i_lt] at hn'
        have hs : (n - 31).toInt = n.toInt - (31 : Int32).toInt := by rw [fb_subI (by omega) (by omega)]
        refine Or.inl ⟨(n - 31, 9), (n - 31, 9), ?_, ?_, ⟨rfl, ?_, ?_⟩, ?_⟩
        · simp only [f_X0_dateAt_L36]
          rw [if_neg (by decide), hm]
          simp only [bnd1, Option.bind_some]
          rw [if_neg hn]
          rfl
        · simp only [f_Y8_dateOf_L48]
          rw [hm8]
          simp only [bnd1, Option.bind_some]
          rw [if_neg hn]
          rfl
        · show 0 ≤ (n - 31).toInt
          omega
        · exact Or.inr (Or.inr (Or.inr (Or.inr (Or.inr (Or.inr (Or.inr (Or.inr (Or.inl ⟨rfl, by show (n - 31).toInt < _; omega⟩))))))))
        · (dsimp only; decide)
    · have hm : f_X0_daysOfMonth y 9 = some 30 := rfl
      have hm8 : f_Y8_daysOfMonth y 9 = some 30 := rfl
      by_cases hn : n < 30
      · refine Or.inr ⟨(n, 9), (n, 9), ?_, ?_, rfl⟩
        · simp only [f_X0_dateAt_L36]
          rw [if_neg (by decide), hm]
          simp only [bnd1, Option.bind_some]
          rw [if_pos hn]
        · simp only [f_Y8_dateOf_L48]
          rw [hm8]
          simp only [bnd1, Option.bind_some]
          rw [if_pos hn]
      · have hn' := hn
        rw [i_lt] at hn'
        have hs : (n - 30).toInt = n.toInt - (30 : Int32).toInt := by rw [fb_subI (by omega) (by omega)]
        refine Or.inl ⟨(n - 30, 10), (n - 30, 10), ?_, ?_, ⟨rfl, ?_, ?_⟩, ?_⟩
        · simp only [f_X0_dateAt_L36]
          rw [if_neg (by decide), hm]
          simp only [bnd1, Option.bind_some]
          rw [if_neg hn]
          rfl
        · simp only [f_Y8_dateOf_L48]
          rw [hm8]
          simp only [bnd1, Option.bind_some]
          rw [if_neg hn]
          rfl
        · show 0 ≤ (n - 30).toInt
          omega
        · exact Or.inr (Or.inr (Or.inr (Or.inr (Or.inr (Or.inr (Or.inr (Or.inr (Or.inr (Or.inl ⟨rfl, by show (n - 30).toInt < _; omega⟩)))))))))
        · (dsimp only; decide)
    · have hm : f_X0_daysOfMonth y 10 = some 31 := rfl
      have hm8 : f_Y8_daysOfMonth y 10 = some 31 := rfl
      by_cases hn : n < 31
      · refine Or.inr ⟨(n, 10), (n, 10), ?_, ?_, rfl⟩
        · simp only [f_X0_dateAt_L36]
          rw [if_neg (by decide), hm]
          simp only [bnd1, Option.bind_some]
          rw [if_pos hn]
        · simp only [f_Y8_dateOf_L48]
          rw [hm8]
          simp only [bnd1, Option.bind_some]
          rw [if_pos hn]
      · have hn' := hn
        rw [i_lt] at hn'
        have hs : (n - 31).toInt = n.toInt - (31 : Int32).toInt := by rw [fb_subI (by omega) (by omega)]
        refine Or.inl ⟨(n - 31, 11), (n - 31, 11), ?_, ?_, ⟨rfl, ?_, ?_⟩, ?_⟩
        · simp only [f_X0_dateAt_L36]
          rw [if_neg (by decide), hm]
          simp only [bnd1, Option.bind_some]
          rw [if_neg hn]
          rfl
        · simp only [f_Y8_dateOf_L48]
          rw [hm8]
          simp only [bnd1, Option.bind_some]
          rw [if_neg hn]
          rfl
        · show 0 ≤ (n - 31).toInt
          omega
        · exact Or.inr (Or.inr (Or.inr (Or.inr (Or.inr (Or.inr (Or.inr (Or.inr (Or.inr (Or.inr (Or.inl ⟨rfl, by show (n - 31).toInt < _; omega⟩))))))))))
        · (dsimp only; decide)
    · have hm : f_X0_daysOfMonth y 11 = some 30 := rfl
      have hm8 : f_Y8_daysOfMonth y 11 = some 30 := rfl
      by_cases hn : n < 30
      · refine Or.inr ⟨(n, 11), (n, 11), ?_, ?_, rfl⟩
        · simp only [f_X0_dateAt_L36]
          rw [if_neg (by decide), hm]
          simp only [bnd1, Option.bind_some]
          rw [if_pos hn]
        · simp only [f_Y8_dateOf_L48]
          rw [hm8]
          simp only [bnd1, Option.bind_some]
          rw [if_pos hn]
      · have hn' := hn
        rw [i_lt] at hn'
        have hs : (n - 30).toInt = n.toInt - (30 : Int32).toInt := by rw [fb_subI (by omega) (by omega)]
        refine Or.inl ⟨(n - 30, 12), (n - 30, 12), ?_, ?_, ⟨rfl, ?_, ?_⟩, ?_⟩
        · simp only [f_X0_dateAt_L36]
          rw [if_neg (by decide), hm]
          simp only [bnd1, Option.bind_some]
          rw [if_neg hn]
          rfl
        · simp only [f_Y8_dateOf_L48]
          rw [hm8]
          simp only [bnd1, Option.bind_some]
          rw [if_neg hn]
          rfl
        · show 0 ≤ (n - 30).toInt
          omega
        · exact Or.inr (Or.inr (Or.inr (Or.inr (Or.inr (Or.inr (Or.inr (Or.inr (Or.inr (Or.inr (Or.inr (⟨rfl, by show (n - 30).toInt < _; omega⟩)))))))))))
        · (dsimp only; decide)
    · have hm : f_X0_daysOfMonth y 12 = some 31 := rfl
      have hm8 : f_Y8_daysOfMonth y 12 = some 31 := rfl
      by_cases hn : n < 31
      · refine Or.inr ⟨(n, 12), (n, 12), ?_, ?_, rfl⟩
        · simp only [f_X0_dateAt_L36]
          rw [if_pos (by decide)]
        · simp only [f_Y8_dateOf_L48]
          rw [hm8]
          simp only [bnd1, Option.bind_some]
          rw [if_pos hn]
      · rw [i_lt] at hn
        omega) fu (v, 1) (v, 1) ⟨rfl, h1, Or.inl ⟨rfl, h2⟩⟩ (by show (12 - (1 : Int32).toInt).toNat < fu; decide)
  exact ⟨e, q1, q3 ▸ q2⟩
theorem pa_dateOf (v1 c : Int32) (o : Nat → Int64) : ∃ k o' b, f_W_dateOf v1 o = some (k, o') ∧ f_Y8_dateOf v1 c = some (b, k) ∧ (k = 0 → o' 0 = b.toInt64) := by
  have e0 : (0 : Int32).toInt = 0 := by decide
  have e1 : (2556 : Int32).toInt = 2556 := by decide
  by_cases h1 : 0 ≤ v1.toInt ∧ v1.toInt ≤ 2556
  · have a1 : f_X7_needRange v1 0 2556 = some (.ok ()) := nr_t (by omega) (by omega)
    have b1 : f_Y8_in v1 0 2556 = some 1 := in_t (by omega) (by omega)
    obtain ⟨e, q1, q2, q3, r, q4, q5⟩ := dd_years (c := 0) h1.1 h1.2
    obtain ⟨d, w1, w2⟩ := dd_months (c := 0) q3 q4 q5
    refine ⟨0, vp_updL o (0 : Int32).toNatClampNeg ((((e.2 * 10000) + (d.2 * 100)) + d.1) + 1).toInt64, (((e.2 * 10000) + (d.2 * 100)) + d.1) + 1, ?_, ?_, fun _ => rfl⟩
    · unfold f_W_dateOf f_X7_dateOf f_X0_dateAt
      rw [a1]
      simp only [bnd1, bnd2, Option.bind_some, mx]
      rw [q1]
      simp only [Option.bind_some]
      rw [w1]
      rfl
    · unfold f_Y8_dateOf
      rw [b1]
      simp only [bnd1, bnd2, Option.bind_some]
      rw [can_t]
      simp only [Option.bind_some]
      rw [if_neg (by decide), q2]
      simp only [Option.bind_some]
      rw [w2]
      simp only [Option.bind_some]
      rw [Int32.mul_comm 10000 e.2, Int32.mul_comm 100 d.2]
  · have a1 : f_X7_needRange v1 0 2556 = some (.error "java/lang/IllegalArgumentException") := nr_f (by rw [e0, e1]; exact h1)
    have b1 : f_Y8_in v1 0 2556 = some 0 := in_f (by rw [e0, e1]; exact h1)
    refine ⟨1, o, 0, ?_, ?_, fun h => absurd h (by decide)⟩
    · unfold f_W_dateOf f_X7_dateOf
      rw [a1]
      rfl
    · unfold f_Y8_dateOf
      rw [b1]
      simp only [bnd1, Option.bind_some]
      rw [can_f]
      rfl
