/-! ===== an order comes ===== -/
theorem i_add {a b : Int32} (h1 : -2147483648 ≤ a.toInt + b.toInt) (h2 : a.toInt + b.toInt ≤ 2147483647) : (a + b).toInt = a.toInt + b.toInt := by
  rw [Int32.toInt_add]
  exact Int.bmod_eq_of_le (by omega) (by omega)
theorem i_sub {a b : Int32} (h1 : -2147483648 ≤ a.toInt - b.toInt) (h2 : a.toInt - b.toInt ≤ 2147483647) : (a - b).toInt = a.toInt - b.toInt := by
  rw [Int32.toInt_sub]
  exact Int.bmod_eq_of_le (by omega) (by omega)
theorem i_mul {a b : Int32} (h1 : -2147483648 ≤ a.toInt * b.toInt) (h2 : a.toInt * b.toInt ≤ 2147483647) : (a * b).toInt = a.toInt * b.toInt := by
  rw [Int32.toInt_mul]
  exact Int.bmod_eq_of_le (by omega) (by omega)
theorem i_tn {a : Int32} : a.toNatClampNeg = a.toInt.toNat := rfl
theorem i_of {k : Nat} (h : k < 2147483648) : (Int32.ofNat k).toInt = k := Int32.toInt_ofNat_of_lt h
theorem row_ix {n : Int32} {k : Nat} (h0 : 0 ≤ n) (h1 : n < 40) (hk : k < 24) : ∃ m : Int32, 0 ≤ m ∧ m < 24 ∧ (n * 24).toNatClampNeg + k = (n * 24 + m).toNatClampNeg ∧ m.toNatClampNeg = k := by
  rw [i_le, show (0 : Int32).toInt = 0 from rfl] at h0
  rw [i_lt, show (40 : Int32).toInt = 40 from rfl] at h1
  have e1 : (Int32.ofNat k).toInt = k := i_of (by omega)
  have e24 : (24 : Int32).toInt = 24 := rfl
  have e2 : (n * 24).toInt = n.toInt * 24 := by rw [i_mul (by rw [e24]; omega) (by rw [e24]; omega), e24]
  have e3 : (n * 24 + Int32.ofNat k).toInt = n.toInt * 24 + k := by rw [i_add (by omega) (by omega), e2, e1]
  refine ⟨Int32.ofNat k, by rw [i_le, e1]; show (0 : Int) ≤ k; omega, by rw [i_lt, e1]; show (k : Int) < 24; omega, ?_, ?_⟩
  · rw [i_tn, i_tn, e2, e3]; omega
  · rw [i_tn, e1]; omega
theorem row_eq {n : Int32} {f f' : Nat → Int32} (h0 : 0 ≤ n) (h1 : n < 40) (h : ∀ m : Int32, 0 ≤ m → m < 24 → ix f' (n * 24 + m) = ix f (n * 24 + m)) : zsum (fun k => f' ((n * 24).toNatClampNeg + k)) 24 = zsum (fun k => f ((n * 24).toNatClampNeg + k)) 24 := by
  refine zsum_ae 24 (fun j hj => ?_)
  obtain ⟨m, m0, m1, e, -⟩ := row_ix h0 h1 hj
  show f' _ = f _
  rw [e]; exact h m m0 m1
theorem zsum_0 {f : Nat → Int32} : ∀ k : Nat, (∀ j, j < k → f j = 0) → zsum f k = 0 := by
  intro k
  induction k with
  | zero => intro _; rfl
  | succ k ih =>
    intro h
    unfold zsum
    rw [ih (fun j hj => h j (by omega)), h k (by omega)]; rfl
theorem row_0 {n : Int32} {f : Nat → Int32} (h0 : 0 ≤ n) (h1 : n < 40) (h : ∀ m : Int32, 0 ≤ m → m < 24 → ix f (n * 24 + m) = 0) : zsum (fun k => f ((n * 24).toNatClampNeg + k)) 24 = 0 := by
  refine zsum_0 24 (fun j hj => ?_)
  obtain ⟨m, m0, m1, e, -⟩ := row_ix h0 h1 hj
  show f _ = 0
  rw [e]; exact h m m0 m1
/-- a number is put into its row -/
theorem ins_loop60 {c k : Int32} {key obd : Nat → Int32} {g : Int32 × (Nat → Int32) → Option ((Int32 × (Nat → Int32)) ⊕ (Int32 × (Nat → Int32)))} (h0 : 0 ≤ c) (h1 : c < 60) (q : QLs c key obd)
    (hg0 : ∀ n f, n ≤ 0 → g (n, f) = some (.inr (n, f)))
    (hg : ∀ n f, 0 < n → n ≤ c → 0 ≤ ix f (n - 1) → ix f (n - 1) < c → g (n, f) = if ix key (ix f (n - 1)) ≤ k then some (.inr (n, f)) else some (.inl (n + (-1), upd f n.toNatClampNeg (ix f (n - 1))))) :
    ∃ r, loop g fu (c, obd) = some r ∧ 0 ≤ r.1 ∧ r.1 ≤ c ∧ QLs (c + 1) (upd key c.toNatClampNeg k) (upd r.2 r.1.toNatClampNeg c) := by
  obtain ⟨r, w1, w2, w3, w4, w5, w6⟩ := lp_one (f := g) (fun s => 0 ≤ s.1 ∧ s.1 ≤ c ∧ (∀ i : Int32, 0 ≤ i → i < s.1 → ix s.2 i = ix obd i) ∧ ∀ i : Int32, s.1 < i → i ≤ c → ix s.2 i = ix obd (i - 1) ∧ k < ix key (ix obd (i - 1)))
    (fun s => 0 ≤ s.1 ∧ s.1 ≤ c ∧ (∀ i : Int32, 0 ≤ i → i < s.1 → ix s.2 i = ix obd i) ∧ (∀ i : Int32, s.1 < i → i ≤ c → ix s.2 i = ix obd (i - 1) ∧ k < ix key (ix obd (i - 1))) ∧ (0 < s.1 → ix key (ix obd (s.1 - 1)) ≤ k)) (fun s => s.1.toNatClampNeg) (by
    rintro ⟨n, f⟩ ⟨g1, g2, g3, g4⟩
    dsimp only at g1 g2 g3 g4 ⊢
    by_cases hn : n ≤ 0
    · refine Or.inr ⟨(n, f), hg0 n f hn, g1, g2, g3, g4, fun z => ?_⟩
      exact absurd z (by dsimp only; grind)
    · have hn' : 0 < n := by grind
      have e1 : ix f (n - 1) = ix obd (n - 1) := g3 (n - 1) (by grind) (by grind)
      obtain ⟨e2, e3⟩ := q.1 (n - 1) (by grind) (by grind)
      rw [hg n f hn' g2 (by rw [e1]; exact e2) (by rw [e1]; exact e3), e1]
      by_cases hc : ix key (ix obd (n - 1)) ≤ k
      · exact Or.inr ⟨(n, f), by rw [if_pos hc], g1, g2, g3, g4, fun _ => hc⟩
      · left
        refine ⟨(n + (-1), upd f n.toNatClampNeg (ix obd (n - 1))), by rw [if_neg hc], ⟨by dsimp only; grind, by dsimp only; grind, ?_, ?_⟩, ?_⟩
        · intro i i0 i1
          dsimp only at i1 ⊢
          show upd f n.toNatClampNeg (ix obd (n - 1)) i.toNatClampNeg = _
          rw [upd_ne g1 i0 (by grind)]
          exact g3 i i0 (by grind)
        · intro i i0 i1
          dsimp only at i0 ⊢
          have u : ix (upd f n.toNatClampNeg (ix obd (n - 1))) i = if i = n then ix obd (n - 1) else ix f i := upd_at g1 (by grind)
          rw [u]
          by_cases hi : i = n
          · subst hi; rw [if_pos rfl]; exact ⟨rfl, by grind⟩
          · rw [if_neg hi]; exact g4 i (by grind) i1
        · show (n + -1).toNatClampNeg < n.toNatClampNeg
          have a1 : (0 : Int) < n.toInt := by have := i_lt.mp hn'; exact this
          have a2 : (n + -1).toInt = n.toInt - 1 := by
            rw [i_add (by show _ ≤ n.toInt + (-1); omega) (by show n.toInt + (-1) ≤ _; have := fb_rng n; omega)]; rfl
          rw [i_tn, i_tn, a2]; omega) fu (c, obd) ⟨h0, by dsimp only; grind, fun _ _ _ => rfl, fun i i0 i1 => absurd i0 (by dsimp only; grind)⟩ (by
    have a1 := i_le.mp h0
    have a2 := i_lt.mp h1
    have e1 : (0 : Int32).toInt = 0 := rfl
    have e2 : (60 : Int32).toInt = 60 := rfl
    rw [e1] at a1; rw [e2] at a2
    show c.toInt.toNat < fu
    unfold fu; omega)
  obtain ⟨m, f⟩ := r
  dsimp only at w2 w3 w4 w5 w6 ⊢
  refine ⟨(m, f), w1, w2, w3, ?_⟩
  have u : ∀ i : Int32, 0 ≤ i → i ≤ c → ix (upd f m.toNatClampNeg c) i = if i = m then c else if i < m then ix obd i else ix obd (i - 1) := by
    intro i i0 i1
    have : ix (upd f m.toNatClampNeg c) i = if i = m then c else ix f i := upd_at w2 i0
    rw [this]
    by_cases h : i = m
    · rw [if_pos h, if_pos h]
    · rw [if_neg h, if_neg h]
      by_cases h2 : i < m
      · rw [if_pos h2]; exact w4 i i0 h2
      · rw [if_neg h2]; exact (w5 i (by grind) i1).1
  have ku : ∀ i : Int32, 0 ≤ i → ix (upd key c.toNatClampNeg k) i = if i = c then k else ix key i := fun i i0 => upd_at h0 i0
  obtain ⟨q1, q2, q3⟩ := q
  refine ⟨?_, ?_, ?_⟩
  · intro n n0 n1
    dsimp only
    rw [u n n0 (by grind)]
    by_cases hh : n = m
    · rw [if_pos hh]; exact ⟨h0, by grind⟩
    · rw [if_neg hh]
      by_cases h2 : n < m
      · rw [if_pos h2]; have := q1 n n0 (by grind); exact ⟨this.1, by grind⟩
      · rw [if_neg h2]; have := q1 (n - 1) (by grind) (by grind); exact ⟨this.1, by grind⟩
  · intro a b a0 ab bc
    dsimp only
    rw [u a a0 (by grind), u b (by grind) (by grind)]
    by_cases ha : a = m
    · have hb : ¬ b = m := by grind
      have hb2 : ¬ b < m := by grind
      obtain ⟨r1, r2⟩ := q1 (b - 1) (by grind) (by grind)
      rw [if_pos ha, if_neg hb, if_neg hb2, ku c h0, if_pos rfl, ku _ r1, if_neg (by grind)]
      exact Or.inl (w5 b (by grind) (by grind)).2
    · rw [if_neg ha]
      by_cases ha2 : a < m
      · obtain ⟨r1, r2⟩ := q1 a a0 (by grind)
        rw [if_pos ha2, ku _ r1, if_neg (by grind)]
        by_cases hb : b = m
        · rw [if_pos hb, ku c h0, if_pos rfl]
          have hm := w6 (by grind)
          have : ix key (ix obd a) ≤ ix key (ix obd (m - 1)) := by
            by_cases hh : a = m - 1
            · rw [hh]; grind
            · have := q2 a (m - 1) a0 (by grind) (by grind); grind
          grind
        · rw [if_neg hb]
          by_cases hb2 : b < m
          · obtain ⟨t1, t2⟩ := q1 b (by grind) (by grind)
            rw [if_pos hb2, ku _ t1, if_neg (by grind)]
            exact q2 a b a0 ab (by grind)
          · obtain ⟨t1, t2⟩ := q1 (b - 1) (by grind) (by grind)
            rw [if_neg hb2, ku _ t1, if_neg (by grind)]
            exact q2 a (b - 1) a0 (by grind) (by grind)
      · have hb : ¬ b = m := by grind
        have hb2 : ¬ b < m := by grind
        obtain ⟨r1, r2⟩ := q1 (a - 1) (by grind) (by grind)
        obtain ⟨t1, t2⟩ := q1 (b - 1) (by grind) (by grind)
        rw [if_neg ha2, if_neg hb, if_neg hb2, ku _ r1, if_neg (by grind), ku _ t1, if_neg (by grind)]
        exact q2 (a - 1) (b - 1) (by grind) (by grind) (by grind)
  · intro l l0 l1
    by_cases hl : l = c
    · refine ⟨m, w2, by grind, ?_⟩
      rw [u m w2 w3, if_pos rfl, hl]
    · obtain ⟨n, n0, n1, n2⟩ := q3 l l0 (by grind)
      by_cases h2 : n < m
      · exact ⟨n, n0, by grind, by rw [u n n0 (by grind), if_neg (by grind), if_pos h2]; exact n2⟩
      · refine ⟨n + 1, by grind, by grind, ?_⟩
        rw [u (n + 1) (by grind) (by grind), if_neg (by grind), if_neg (by grind), show n + 1 - 1 = n by grind]; exact n2
theorem ins_loop {c k : Int32} {key obd : Nat → Int32} {g : Int32 × (Nat → Int32) → Option ((Int32 × (Nat → Int32)) ⊕ (Int32 × (Nat → Int32)))} (h0 : 0 ≤ c) (h1 : c < 40) (q : QLs c key obd)
    (hg0 : ∀ n f, n ≤ 0 → g (n, f) = some (.inr (n, f)))
    (hg : ∀ n f, 0 < n → n ≤ c → 0 ≤ ix f (n - 1) → ix f (n - 1) < c → g (n, f) = if ix key (ix f (n - 1)) ≤ k then some (.inr (n, f)) else some (.inl (n + (-1), upd f n.toNatClampNeg (ix f (n - 1))))) :
    ∃ r, loop g fu (c, obd) = some r ∧ 0 ≤ r.1 ∧ r.1 ≤ c ∧ QLs (c + 1) (upd key c.toNatClampNeg k) (upd r.2 r.1.toNatClampNeg c) :=
  ins_loop60 h0 (by grind) q hg0 hg
theorem mul24 {n c m k : Int32} (h0 : 0 ≤ n) (h1 : n < 40) (c0 : 0 ≤ c) (c1 : c < 40) (m0 : 0 ≤ m) (m1 : m < 24) (k0 : 0 ≤ k) (k1 : k < 24) (h : n * 24 + m = c * 24 + k) : n = c ∧ m = k := by
  constructor <;> grind
/-- a new order has nothing -/
theorem zr_loop {c : Int32} {a1 a2 a3 a4 a5 a6 had st : Nat → Int32} (h0 : 0 ≤ c) (h1 : c < 40) :
    ∃ r, loop (fun z : Int32 × (Nat → Int32) × (Nat → Int32) => f_X2_add_L128 c a1 a2 a3 a4 a5 a6 z.1 z.2.1 z.2.2) fu (0, had, st) = some r ∧ (∀ m : Int32, 0 ≤ m → m < 24 → ix r.1 (c * 24 + m) = 0 ∧ ix r.2 (c * 24 + m) = 0) ∧ ∀ n m : Int32, 0 ≤ n → n < 40 → n ≠ c → 0 ≤ m → m < 24 → ix r.1 (n * 24 + m) = ix had (n * 24 + m) ∧ ix r.2 (n * 24 + m) = ix st (n * 24 + m) := by
  refine lp_one (f := fun z : Int32 × (Nat → Int32) × (Nat → Int32) => f_X2_add_L128 c a1 a2 a3 a4 a5 a6 z.1 z.2.1 z.2.2) (fun s => 0 ≤ s.1 ∧ s.1 ≤ 24 ∧ (∀ m : Int32, 0 ≤ m → m < s.1 → ix s.2.1 (c * 24 + m) = 0 ∧ ix s.2.2 (c * 24 + m) = 0) ∧ ∀ n m : Int32, 0 ≤ n → n < 40 → n ≠ c → 0 ≤ m → m < 24 → ix s.2.1 (n * 24 + m) = ix had (n * 24 + m) ∧ ix s.2.2 (n * 24 + m) = ix st (n * 24 + m)) _ (fun z => msr z.1 24) ?_ fu _ ⟨by dsimp only; decide, by dsimp only; decide, fun m m0 m1 => absurd m1 (by dsimp only; grind), fun _ _ _ _ _ _ _ => ⟨rfl, rfl⟩⟩ (msr_fu (by dsimp only; decide) (by decide))
  rintro ⟨n, f, g⟩ ⟨g1, g2, g3, g4⟩
  dsimp only at g1 g2 g3 g4 ⊢
  unfold f_X2_add_L128
  by_cases hn : 24 ≤ n
  · have : n = 24 := by grind
    subst this
    exact Or.inr ⟨(f, g), by rw [if_pos hn], g3, g4⟩
  · left
    have hn' : n < 24 := by grind
    refine ⟨(n + 1, upd f (c * 24 + n).toNatClampNeg 0, upd g (c * 24 + n).toNatClampNeg 0), ?_, ⟨by dsimp only; grind, by dsimp only; grind, ?_, ?_⟩, msr_lt hn'⟩
    · rw [if_neg hn, gd_960 (by grind) (by grind), gd_960 (by grind) (by grind)]
    · intro m m0 m1
      dsimp only at m1 ⊢
      have u1 : ix (upd f (c * 24 + n).toNatClampNeg 0) (c * 24 + m) = if c * 24 + m = c * 24 + n then 0 else ix f (c * 24 + m) := upd_at (by grind) (by grind)
      have u2 : ix (upd g (c * 24 + n).toNatClampNeg 0) (c * 24 + m) = if c * 24 + m = c * 24 + n then 0 else ix g (c * 24 + m) := upd_at (by grind) (by grind)
      rw [u1, u2]
      by_cases hm : m = n
      · rw [if_pos (by rw [hm]), if_pos (by rw [hm])]; exact ⟨rfl, rfl⟩
      · rw [if_neg (by grind), if_neg (by grind)]; exact g3 m m0 (by grind)
    · intro k m k0 k1 k2 m0 m1
      dsimp only
      have u1 : ix (upd f (c * 24 + n).toNatClampNeg 0) (k * 24 + m) = if k * 24 + m = c * 24 + n then 0 else ix f (k * 24 + m) := upd_at (by grind) (by grind)
      have u2 : ix (upd g (c * 24 + n).toNatClampNeg 0) (k * 24 + m) = if k * 24 + m = c * 24 + n then 0 else ix g (k * 24 + m) := upd_at (by grind) (by grind)
      have hm : ¬ k * 24 + m = c * 24 + n := fun z => k2 (mul24 k0 k1 h0 h1 m0 m1 g1 hn' z).1
      rw [u1, u2, if_neg hm, if_neg hm]
      exact g4 k m k0 k1 k2 m0 m1
theorem QH_new {c lcn : Int32} {had had' w w' : Nat → Int32} {st st' : Nat → Int32} {gif : Int32} (h0 : 0 ≤ c) (h1 : c < 40) (q : QH c lcn had w) (qg : QG c gif had st w) (ha : AG 503 2423 w w') (z : ∀ m : Int32, 0 ≤ m → m < 24 → ix had' (c * 24 + m) = 0 ∧ ix st' (c * 24 + m) = 0)
    (s : ∀ n m : Int32, 0 ≤ n → n < 40 → n ≠ c → 0 ≤ m → m < 24 → ix had' (n * 24 + m) = ix had (n * 24 + m) ∧ ix st' (n * 24 + m) = ix st (n * 24 + m)) : QH (c + 1) lcn had' w' := by
  intro n m n0 n1 m0 m1
  rw [ha _ (by grind) (by grind)]
  by_cases hn : n = c
  · subst hn
    rw [(z m m0 m1).1, (qg.2.2.2.2 n m (by grind) h1 m0 m1).1]
    exact ⟨rfl, by decide, by decide, fun _ => rfl⟩
  · rw [(s n m n0 (by grind) hn m0 m1).1]
    exact q n m n0 (by grind) m0 m1
theorem QG_new {c : Int32} {had had' w w' : Nat → Int32} {st st' : Nat → Int32} {gif : Int32} (h0 : 0 ≤ c) (h1 : c < 40) (qg : QG c gif had st w) (ha8 : AG 8 9 w w') (ha : AG 503 2423 w w') (z : ∀ m : Int32, 0 ≤ m → m < 24 → ix had' (c * 24 + m) = 0 ∧ ix st' (c * 24 + m) = 0)
    (s : ∀ n m : Int32, 0 ≤ n → n < 40 → n ≠ c → 0 ≤ m → m < 24 → ix had' (n * 24 + m) = ix had (n * 24 + m) ∧ ix st' (n * 24 + m) = ix st (n * 24 + m)) : QG (c + 1) gif had' st' w' := by
  obtain ⟨g1, g2, g3, g4, g5⟩ := qg
  have e8 : w' 8 = w 8 := ha8 8 (by decide) (by decide)
  refine ⟨e8.trans g1, g2, ?_, ?_, ?_⟩
  · intro n m n0 n1 m0 m1
    rw [ha _ (by grind) (by grind)]
    by_cases hn : n = c
    · subst hn
      rw [(z m m0 m1).1, (z m m0 m1).2, (g5 n m (by grind) h1 m0 m1).2]
      exact ⟨rfl, by decide, g2, fun h => absurd h (by decide)⟩
    · obtain ⟨s1, s2⟩ := s n m n0 (by grind) hn m0 m1
      rw [s1, s2]
      exact g3 n m n0 (by grind) m0 m1
  · intro n m m' n0 n1 m0 m1 m2 m3
    by_cases hn : n = c
    · subst hn
      rw [(z m m0 m1).1]
      exact fun h => absurd h (by decide)
    · obtain ⟨s1, s2⟩ := s n m n0 (by grind) hn m0 m1
      obtain ⟨s3, s4⟩ := s n m' n0 (by grind) hn m2 m3
      rw [s1, s2, s3, s4]
      exact g4 n m m' n0 (by grind) m0 m1 m2 m3
  · intro n m n0 n1 m0 m1
    rw [ha _ (by grind) (by grind), ha _ (by grind) (by grind)]
    exact g5 n m (by grind) n1 m0 m1
theorem QS_new {c gif v : Int32} {oop had had' : Nat → Int32} (h0 : 0 ≤ c) (h1 : c < 40) (q : QS c gif oop had) (v1 : 1 ≤ v) (v2 : v ≤ 50) (z : ∀ m : Int32, 0 ≤ m → m < 24 → ix had' (c * 24 + m) = 0)
    (s : ∀ n m : Int32, 0 ≤ n → n < 40 → n ≠ c → 0 ≤ m → m < 24 → ix had' (n * 24 + m) = ix had (n * 24 + m)) : QS (c + 1) gif (upd oop c.toNatClampNeg v) had' := by
  obtain ⟨g1, g2⟩ := q
  have e50 : (50 : Int32).toInt = 50 := rfl
  have v2' := i_le.mp v2
  rw [e50] at v2'
  have c0 := i_le.mp h0
  rw [show (0 : Int32).toInt = 0 from rfl] at c0
  have c1 := i_lt.mp h1
  rw [show (40 : Int32).toInt = 40 from rfl] at c1
  have e1 : (c + 1).toInt = c.toInt + 1 := i_inc (by omega)
  refine ⟨?_, ?_⟩
  · intro n n0 n1
    have u : ix (upd oop c.toNatClampNeg v) n = if n = c then v else ix oop n := upd_at h0 n0
    by_cases hn : n = c
    · rw [u, if_pos hn, row_0 n0 (by grind) (fun m m0 m1 => by rw [hn]; exact z m m0 m1)]; omega
    · rw [u, if_neg hn, row_eq n0 (by grind) (fun m m0 m1 => s n m n0 (by grind) hn m0 m1)]
      exact g1 n n0 (by grind)
  · have e2 : (c + 1).toNatClampNeg = c.toNatClampNeg + 1 := by rw [i_tn, i_tn, e1]; omega
    rw [e2, e1]
    unfold zsum
    rw [zsum_upd, if_neg (Nat.lt_irrefl _), upd_same]
    omega
theorem QO_new {c prods v1 v2 v3 v4 v5 : Int32} {ocu opr oop odu oli w w' : Nat → Int32} (h0 : 0 ≤ c) (h1 : c < 40) (q : QO c prods ocu opr oop odu oli w) (a1 : 0 ≤ v1 ∧ v1 ≤ 7) (a2 : 0 ≤ v2 ∧ v2 < prods) (a3 : 1 ≤ v3 ∧ v3 ≤ 50) (a4 : 0 ≤ v4 ∧ v4 ≤ 2556) (a5 : 0 ≤ v5 ∧ v5 ≤ 400)
    (hw : ∀ n : Int32, 0 ≤ n → n < 40 → ix w' (303 + n) = (if n = c then v1 else ix w (303 + n)) ∧ ix w' (343 + n) = (if n = c then v2 else ix w (343 + n)) ∧ ix w' (383 + n) = (if n = c then v3 else ix w (383 + n)) ∧ ix w' (423 + n) = (if n = c then v4 else ix w (423 + n)) ∧ ix w' (463 + n) = (if n = c then v4 + v5 else ix w (463 + n))) :
    QO (c + 1) prods (upd ocu c.toNatClampNeg v1) (upd opr c.toNatClampNeg v2) (upd oop c.toNatClampNeg v3) (upd odu c.toNatClampNeg v4) (upd oli c.toNatClampNeg v5) w' := by
  intro n n0 n1
  obtain ⟨w1, w2, w3, w4, w5⟩ := hw n n0 (by grind)
  have u : ∀ (f : Nat → Int32) (v : Int32), ix (upd f c.toNatClampNeg v) n = if n = c then v else ix f n := fun f v => upd_at h0 n0
  rw [w1, w2, w3, w4, w5, u, u, u, u, u]
  by_cases hn : n = c
  · simp only [if_pos hn]
    exact ⟨trivial, a1.1, a1.2, trivial, a2.1, a2.2, trivial, by grind, a3.2, trivial, a4.1, a4.2, trivial, a5.1, a5.2⟩
  · simp only [if_neg hn]
    exact q n n0 (by grind)

set_option maxRecDepth 4000 in
theorem cs_20 (PL : (Nat → Int32) → (Nat → Int32) → (Nat → Int32) → (Nat → Int64) → (Nat → Int64) → (Nat → Int32) → Prop) (cp1_acts : Int32) (cp1_nextSlot : Int32) (cp1_now_today : Int32) (cp1_now_products : Int32) (cp1_now_itemCount : Int32) (cp1_now_items : Nat → Int32) (cp1_now_books : Nat → Int32) (cp1_now_terms : Nat → Int32) (cp1_now_shelves_lanes : Int32) (cp1_now_shelves_positions : Int32) (cp1_now_shelves_room : Int32) (cp1_now_shelves_gap : Int32) (cp1_now_shelves_places : Int32) (cp1_now_shelves_picked : Int64) (cp1_now_shelves_lot : Nat → Int32) (cp1_now_shelves_pieces : Nat → Int32) (cp1_now_shelves_mark : Nat → Int32) (cp1_now_shelves_byDistance : Nat → Int32) (cp1_now_lots_count : Int32) (cp1_now_lots_product : Nat → Int32) (cp1_now_lots_last : Nat → Int32) (cp1_now_lots_cost : Nat → Int32) (cp1_now_lots_state : Nat → Int32) (cp1_now_lots_byLast : Nat → Int32) (cp1_now_orders_count : Int32) (cp1_now_orders_gifts : Int32) (cp1_now_orders_customer : Nat → Int32) (cp1_now_orders_product : Nat → Int32) (cp1_now_orders_open : Nat → Int32) (cp1_now_orders_due : Nat → Int32) (cp1_now_orders_life : Nat → Int32) (cp1_now_orders_byDue : Nat → Int32) (cp1_now_orders_had : Nat → Int32) (cp1_now_orders_stamps : Nat → Int32) (cp1_hk : Nat) (cp1_st : Nat → StT) (cp1_plan_terms : Nat → Int32) (cp1_plan_low : Nat → Int32) (cp1_plan_high : Nat → Int32) (cp1_plan_bottom : Nat → Int64) (cp1_plan_cost : Nat → Int64) (cp1_plan_act : Nat → Int32) (cp1_picker_deepest : Int32) (cp1_picker_shallowest : Int32) (cp1_picker_widest : Int32) (cp1_picker_least : Nat → Int32) (cp1_picker_next : Nat → Int32) (cp1_rest : Nat → Int32) (cp1_packed : Nat → Int32) (cp2_raised : Int32) (cp2_undos : Int32) (cp2_eldest : Int32) (cp2_w : Nat → Int32) (cp2_kept : Nat → Int32) (cp2_copy : Nat → Int32) (cp2_near : Nat → Int32) (cp2_isDone : Nat → Int32) (cp2_lane : Nat → Int32) (cp2_position : Nat → Int32) (cp2_least : Nat → Int32) (cp2_boxesOf : Nat → Int32) (cp2_staying : Nat → Int64) (cp2_planned : Nat → Int64) (cp2_scale : Nat → Int64) (cp3 : Nat → Int64) (v1 v2 v3 v4 v5 : Int32) (hR : RC PL (cp1_now_today, cp1_now_products, cp1_now_itemCount, cp1_now_items, cp1_now_books, cp1_now_terms, cp1_now_shelves_lanes, cp1_now_shelves_positions, cp1_now_shelves_room, cp1_now_shelves_gap, cp1_now_shelves_places, cp1_now_shelves_picked, cp1_now_shelves_lot, cp1_now_shelves_pieces, cp1_now_shelves_mark, cp1_now_shelves_byDistance, cp1_now_lots_count, cp1_now_lots_product, cp1_now_lots_last, cp1_now_lots_cost, cp1_now_lots_state, cp1_now_lots_byLast, cp1_now_orders_count, cp1_now_orders_gifts, cp1_now_orders_customer, cp1_now_orders_product, cp1_now_orders_open, cp1_now_orders_due, cp1_now_orders_life, cp1_now_orders_byDue, cp1_now_orders_had, cp1_now_orders_stamps) cp2_w cp2_near cp1_acts cp1_nextSlot cp1_hk cp1_st cp2_undos cp2_eldest cp2_kept cp1_plan_terms cp1_plan_low cp1_plan_high cp1_plan_bottom cp1_plan_cost cp1_plan_act) : ∃ z', f_c20 v1 v2 v3 v4 v5 (cp1_acts, cp1_nextSlot, cp1_now_today, cp1_now_products, cp1_now_itemCount, cp1_now_items, cp1_now_books, cp1_now_terms, cp1_now_shelves_lanes, cp1_now_shelves_positions, cp1_now_shelves_room, cp1_now_shelves_gap, cp1_now_shelves_places, cp1_now_shelves_picked, cp1_now_shelves_lot, cp1_now_shelves_pieces, cp1_now_shelves_mark, cp1_now_shelves_byDistance, cp1_now_lots_count, cp1_now_lots_product, cp1_now_lots_last, cp1_now_lots_cost, cp1_now_lots_state, cp1_now_lots_byLast, cp1_now_orders_count, cp1_now_orders_gifts, cp1_now_orders_customer, cp1_now_orders_product, cp1_now_orders_open, cp1_now_orders_due, cp1_now_orders_life, cp1_now_orders_byDue, cp1_now_orders_had, cp1_now_orders_stamps, cp1_hk, cp1_st, cp1_plan_terms, cp1_plan_low, cp1_plan_high, cp1_plan_bottom, cp1_plan_cost, cp1_plan_act, cp1_picker_deepest, cp1_picker_shallowest, cp1_picker_widest, cp1_picker_least, cp1_picker_next, cp1_rest, cp1_packed, cp2_raised, cp2_undos, cp2_eldest, cp2_w, cp2_kept, cp2_copy, cp2_near, cp2_isDone, cp2_lane, cp2_position, cp2_least, cp2_boxesOf, cp2_staying, cp2_planned, cp2_scale, cp3) = some z' ∧ R PL z' := by
  have hS := hR.1
  rw [RS_mk] at hS
  obtain ⟨a1, a2, a3, a4, a5, a6, a7, a8, a9, a10, a11, a12, a13, a14, a15⟩ := hS
  have a0 := a1
  obtain ⟨d0, d1, d2, d3, d4, d5, d6, d7, d8, d9, d10, d11, d12, d13, d14, d15, d16, d17, d18, d19, d20, d21, d22, d23, d24, d25, d26⟩ := a0
  obtain ⟨a', ns', hk', st', u', e', k', m1, m2, m3⟩ := remember_keep hR.1 hR.2.2.1
  have m1 : f_X7_remember cp1_acts cp1_nextSlot cp1_hk cp1_st cp1_now_today cp1_now_products cp1_now_itemCount cp1_now_items cp1_now_books cp1_now_terms cp1_now_shelves_lanes cp1_now_shelves_positions cp1_now_shelves_room cp1_now_shelves_gap cp1_now_shelves_places cp1_now_shelves_picked cp1_now_shelves_lot cp1_now_shelves_pieces cp1_now_shelves_mark cp1_now_shelves_byDistance cp1_now_lots_count cp1_now_lots_product cp1_now_lots_last cp1_now_lots_cost cp1_now_lots_state cp1_now_lots_byLast cp1_now_orders_count cp1_now_orders_gifts cp1_now_orders_customer cp1_now_orders_product cp1_now_orders_open cp1_now_orders_due cp1_now_orders_life cp1_now_orders_byDue cp1_now_orders_had cp1_now_orders_stamps = some (a', ns', hk', st') := m1
  have e7 : f_X7_needProduct v2 cp1_now_products = _ := n_needProduct v2 cp1_now_products
  have e8 : f_Y8_isProduct v2 cp2_w = _ := n_isProduct v2 cp2_w (by rw [d18]; exact d19) (by rw [d18]; clear hR m1 m2 m3; grind)
  rw [d18] at e8
  have w0 : cp2_w (0 : Int32).toNatClampNeg = cp1_now_today := d0
  have w7 : cp2_w (7 : Int32).toNatClampNeg = cp1_now_orders_count := d24
  by_cases c0 : 0 ≤ v1 ∧ v1 ≤ 7
  rotate_left
  · skip
    have h1 : f_W_order v1 v2 v3 v4 v5 cp1_acts cp1_nextSlot cp1_hk cp1_st cp1_now_today cp1_now_products cp1_now_itemCount cp1_now_items cp1_now_books cp1_now_terms cp1_now_shelves_lanes cp1_now_shelves_positions cp1_now_shelves_room cp1_now_shelves_gap cp1_now_shelves_places cp1_now_shelves_picked cp1_now_shelves_lot cp1_now_shelves_pieces cp1_now_shelves_mark cp1_now_shelves_byDistance cp1_now_lots_count cp1_now_lots_product cp1_now_lots_last cp1_now_lots_cost cp1_now_lots_state cp1_now_lots_byLast cp1_now_orders_count cp1_now_orders_gifts cp1_now_orders_customer cp1_now_orders_product cp1_now_orders_open cp1_now_orders_due cp1_now_orders_life cp1_now_orders_byDue cp1_now_orders_had cp1_now_orders_stamps cp3 = some (1, cp1_acts, cp1_nextSlot, cp1_hk, cp1_st, cp1_now_orders_count, cp1_now_orders_customer, cp1_now_orders_product, cp1_now_orders_open, cp1_now_orders_due, cp1_now_orders_life, cp1_now_orders_byDue, cp1_now_orders_had, cp1_now_orders_stamps, cp3) := by
      unfold f_W_order f_X7_order f_X7_order_J10
      by_cases c0a : v1 < 0
      · rw [if_pos c0a]
        simp only [bnd14, Option.bind_some, mx, ↓reduceIte]
      · rw [if_neg c0a, if_neg (show ¬ v1 < 8 by clear hR m1 m2 m3; grind)]
        simp only [bnd14, Option.bind_some, mx, ↓reduceIte]
    have h2 : f_Y8_order v1 v2 v3 v4 v5 cp2_raised cp2_undos cp2_eldest cp2_w cp2_kept = some (0, 1, cp2_undos, cp2_eldest, cp2_w, cp2_kept) := by
      unfold f_Y8_order
      rw [n_in, if_neg c0]
      unfold f_Y8_order_J23 f_Y8_order_J24
      simp only [bnd1, bnd2, Option.bind_some, can_f0, ↓reduceIte]
    refine ⟨?wz, ?pz, ?qz⟩
    case pz =>
      rw [fc_20, h1]
      simp only [bnd15, Option.bind_some]
      rw [h2]
      simp only [bnd1, bnd6, Option.bind_some, f_Y8_thrown]
      exact fin_1 (show ¬ (1 : Int32) = 0 by decide)
    case qz =>
      rw [R_mk]
      exact hR
  have c0a : ¬ v1 < 0 := by clear hR m1 m2 m3; grind
  have c0b : v1 < 8 := by clear hR m1 m2 m3; grind
  by_cases c1 : 0 ≤ v2 ∧ v2 < cp1_now_products
  rotate_left
  · skip
    have h1 : f_W_order v1 v2 v3 v4 v5 cp1_acts cp1_nextSlot cp1_hk cp1_st cp1_now_today cp1_now_products cp1_now_itemCount cp1_now_items cp1_now_books cp1_now_terms cp1_now_shelves_lanes cp1_now_shelves_positions cp1_now_shelves_room cp1_now_shelves_gap cp1_now_shelves_places cp1_now_shelves_picked cp1_now_shelves_lot cp1_now_shelves_pieces cp1_now_shelves_mark cp1_now_shelves_byDistance cp1_now_lots_count cp1_now_lots_product cp1_now_lots_last cp1_now_lots_cost cp1_now_lots_state cp1_now_lots_byLast cp1_now_orders_count cp1_now_orders_gifts cp1_now_orders_customer cp1_now_orders_product cp1_now_orders_open cp1_now_orders_due cp1_now_orders_life cp1_now_orders_byDue cp1_now_orders_had cp1_now_orders_stamps cp3 = some (1, cp1_acts, cp1_nextSlot, cp1_hk, cp1_st, cp1_now_orders_count, cp1_now_orders_customer, cp1_now_orders_product, cp1_now_orders_open, cp1_now_orders_due, cp1_now_orders_life, cp1_now_orders_byDue, cp1_now_orders_had, cp1_now_orders_stamps, cp3) := by
      unfold f_W_order f_X7_order
      rw [if_neg c0a, if_pos c0b, e7, if_neg c1]
      simp only [bnd1, bnd14, Option.bind_some, mx, ↓reduceIte]
    have h2 : f_Y8_order v1 v2 v3 v4 v5 cp2_raised cp2_undos cp2_eldest cp2_w cp2_kept = some (0, 1, cp2_undos, cp2_eldest, cp2_w, cp2_kept) := by
      unfold f_Y8_order
      rw [n_in, if_pos c0]
      simp only [bnd1, Option.bind_some, if_neg one_ne]
      rw [e8, if_neg c1]
      unfold f_Y8_order_J23 f_Y8_order_J24
      simp only [bnd1, bnd2, Option.bind_some, can_f0, ↓reduceIte]
    refine ⟨?wa, ?pa, ?qa⟩
    case pa =>
      rw [fc_20, h1]
      simp only [bnd15, Option.bind_some]
      rw [h2]
      simp only [bnd1, bnd6, Option.bind_some, f_Y8_thrown]
      exact fin_1 (show ¬ (1 : Int32) = 0 by decide)
    case qa =>
      rw [R_mk]
      exact hR
  by_cases c2 : 1 ≤ v3 ∧ v3 ≤ 50
  rotate_left
  · skip
    have h1 : f_W_order v1 v2 v3 v4 v5 cp1_acts cp1_nextSlot cp1_hk cp1_st cp1_now_today cp1_now_products cp1_now_itemCount cp1_now_items cp1_now_books cp1_now_terms cp1_now_shelves_lanes cp1_now_shelves_positions cp1_now_shelves_room cp1_now_shelves_gap cp1_now_shelves_places cp1_now_shelves_picked cp1_now_shelves_lot cp1_now_shelves_pieces cp1_now_shelves_mark cp1_now_shelves_byDistance cp1_now_lots_count cp1_now_lots_product cp1_now_lots_last cp1_now_lots_cost cp1_now_lots_state cp1_now_lots_byLast cp1_now_orders_count cp1_now_orders_gifts cp1_now_orders_customer cp1_now_orders_product cp1_now_orders_open cp1_now_orders_due cp1_now_orders_life cp1_now_orders_byDue cp1_now_orders_had cp1_now_orders_stamps cp3 = some (2, cp1_acts, cp1_nextSlot, cp1_hk, cp1_st, cp1_now_orders_count, cp1_now_orders_customer, cp1_now_orders_product, cp1_now_orders_open, cp1_now_orders_due, cp1_now_orders_life, cp1_now_orders_byDue, cp1_now_orders_had, cp1_now_orders_stamps, cp3) := by
      unfold f_W_order f_X7_order
      rw [if_neg c0a, if_pos c0b, e7, if_pos c1]
      simp only [bnd1, bnd14, Option.bind_some, mx, n_range]
      simp only [if_neg c2, mx, Option.bind_some, ↓reduceIte, String.reduceEq]
    have h2 : f_Y8_order v1 v2 v3 v4 v5 cp2_raised cp2_undos cp2_eldest cp2_w cp2_kept = some (0, 2, cp2_undos, cp2_eldest, cp2_w, cp2_kept) := by
      unfold f_Y8_order
      rw [n_in, if_pos c0]
      simp only [bnd1, Option.bind_some, if_neg one_ne]
      rw [e8, if_pos c1]
      simp only [Option.bind_some, if_neg one_ne]
      unfold f_Y8_order_J24
      simp only [bnd1, bnd2, Option.bind_some, can_t, if_neg one_ne, n_in]
      simp only [if_neg c2, ↓reduceIte]
      unfold f_Y8_order_J75 f_Y8_order_J76
      simp only [bnd2, Option.bind_some, can_f0, ↓reduceIte]
    refine ⟨?wb, ?pb, ?qb⟩
    case pb =>
      rw [fc_20, h1]
      simp only [bnd15, Option.bind_some]
      rw [h2]
      simp only [bnd1, bnd6, Option.bind_some, f_Y8_thrown]
      exact fin_1 (show ¬ (2 : Int32) = 0 by decide)
    case qb =>
      rw [R_mk]
      exact hR
  by_cases c3 : cp1_now_today ≤ v4 ∧ v4 ≤ 2556
  rotate_left
  · skip
    have h1 : f_W_order v1 v2 v3 v4 v5 cp1_acts cp1_nextSlot cp1_hk cp1_st cp1_now_today cp1_now_products cp1_now_itemCount cp1_now_items cp1_now_books cp1_now_terms cp1_now_shelves_lanes cp1_now_shelves_positions cp1_now_shelves_room cp1_now_shelves_gap cp1_now_shelves_places cp1_now_shelves_picked cp1_now_shelves_lot cp1_now_shelves_pieces cp1_now_shelves_mark cp1_now_shelves_byDistance cp1_now_lots_count cp1_now_lots_product cp1_now_lots_last cp1_now_lots_cost cp1_now_lots_state cp1_now_lots_byLast cp1_now_orders_count cp1_now_orders_gifts cp1_now_orders_customer cp1_now_orders_product cp1_now_orders_open cp1_now_orders_due cp1_now_orders_life cp1_now_orders_byDue cp1_now_orders_had cp1_now_orders_stamps cp3 = some (2, cp1_acts, cp1_nextSlot, cp1_hk, cp1_st, cp1_now_orders_count, cp1_now_orders_customer, cp1_now_orders_product, cp1_now_orders_open, cp1_now_orders_due, cp1_now_orders_life, cp1_now_orders_byDue, cp1_now_orders_had, cp1_now_orders_stamps, cp3) := by
      unfold f_W_order f_X7_order
      rw [if_neg c0a, if_pos c0b, e7, if_pos c1]
      simp only [bnd1, bnd14, Option.bind_some, mx, n_range]
      simp only [if_pos c2, if_neg c3, mx, Option.bind_some, ↓reduceIte, String.reduceEq]
    have h2 : f_Y8_order v1 v2 v3 v4 v5 cp2_raised cp2_undos cp2_eldest cp2_w cp2_kept = some (0, 2, cp2_undos, cp2_eldest, cp2_w, cp2_kept) := by
      unfold f_Y8_order
      rw [n_in, if_pos c0]
      simp only [bnd1, Option.bind_some, if_neg one_ne]
      rw [e8, if_pos c1]
      simp only [Option.bind_some, if_neg one_ne]
      unfold f_Y8_order_J24
      simp only [bnd1, bnd2, Option.bind_some, can_t, if_neg one_ne, n_in]
      simp only [if_pos c2, if_neg one_ne]
      rw [gd_2450 (by decide) (by decide), w0, if_neg c3]
      simp only [↓reduceIte]
      unfold f_Y8_order_J75 f_Y8_order_J76
      simp only [bnd2, Option.bind_some, can_f0, ↓reduceIte]
    refine ⟨?wc, ?pc, ?qc⟩
    case pc =>
      rw [fc_20, h1]
      simp only [bnd15, Option.bind_some]
      rw [h2]
      simp only [bnd1, bnd6, Option.bind_some, f_Y8_thrown]
      exact fin_1 (show ¬ (2 : Int32) = 0 by decide)
    case qc =>
      rw [R_mk]
      exact hR
  by_cases c4 : 0 ≤ v5 ∧ v5 ≤ 400
  rotate_left
  · skip
    have h1 : f_W_order v1 v2 v3 v4 v5 cp1_acts cp1_nextSlot cp1_hk cp1_st cp1_now_today cp1_now_products cp1_now_itemCount cp1_now_items cp1_now_books cp1_now_terms cp1_now_shelves_lanes cp1_now_shelves_positions cp1_now_shelves_room cp1_now_shelves_gap cp1_now_shelves_places cp1_now_shelves_picked cp1_now_shelves_lot cp1_now_shelves_pieces cp1_now_shelves_mark cp1_now_shelves_byDistance cp1_now_lots_count cp1_now_lots_product cp1_now_lots_last cp1_now_lots_cost cp1_now_lots_state cp1_now_lots_byLast cp1_now_orders_count cp1_now_orders_gifts cp1_now_orders_customer cp1_now_orders_product cp1_now_orders_open cp1_now_orders_due cp1_now_orders_life cp1_now_orders_byDue cp1_now_orders_had cp1_now_orders_stamps cp3 = some (2, cp1_acts, cp1_nextSlot, cp1_hk, cp1_st, cp1_now_orders_count, cp1_now_orders_customer, cp1_now_orders_product, cp1_now_orders_open, cp1_now_orders_due, cp1_now_orders_life, cp1_now_orders_byDue, cp1_now_orders_had, cp1_now_orders_stamps, cp3) := by
      unfold f_W_order f_X7_order
      rw [if_neg c0a, if_pos c0b, e7, if_pos c1]
      simp only [bnd1, bnd14, Option.bind_some, mx, n_range]
      simp only [if_pos c2, if_pos c3, if_neg c4, mx, Option.bind_some, ↓reduceIte, String.reduceEq]
    have h2 : f_Y8_order v1 v2 v3 v4 v5 cp2_raised cp2_undos cp2_eldest cp2_w cp2_kept = some (0, 2, cp2_undos, cp2_eldest, cp2_w, cp2_kept) := by
      unfold f_Y8_order
      rw [n_in, if_pos c0]
      simp only [bnd1, Option.bind_some, if_neg one_ne]
      rw [e8, if_pos c1]
      simp only [Option.bind_some, if_neg one_ne]
      unfold f_Y8_order_J24
      simp only [bnd1, bnd2, Option.bind_some, can_t, if_neg one_ne, n_in]
      simp only [if_pos c2, if_neg one_ne]
      rw [gd_2450 (by decide) (by decide), w0, if_pos c3]
      simp only [if_neg one_ne, if_neg c4, ↓reduceIte]
      unfold f_Y8_order_J75 f_Y8_order_J76
      simp only [bnd2, Option.bind_some, can_f0, ↓reduceIte]
    refine ⟨?wd, ?pd, ?qd⟩
    case pd =>
      rw [fc_20, h1]
      simp only [bnd15, Option.bind_some]
      rw [h2]
      simp only [bnd1, bnd6, Option.bind_some, f_Y8_thrown]
      exact fin_1 (show ¬ (2 : Int32) = 0 by decide)
    case qd =>
      rw [R_mk]
      exact hR
  by_cases c5 : 40 ≤ cp1_now_orders_count
  · skip
    have h1 : f_W_order v1 v2 v3 v4 v5 cp1_acts cp1_nextSlot cp1_hk cp1_st cp1_now_today cp1_now_products cp1_now_itemCount cp1_now_items cp1_now_books cp1_now_terms cp1_now_shelves_lanes cp1_now_shelves_positions cp1_now_shelves_room cp1_now_shelves_gap cp1_now_shelves_places cp1_now_shelves_picked cp1_now_shelves_lot cp1_now_shelves_pieces cp1_now_shelves_mark cp1_now_shelves_byDistance cp1_now_lots_count cp1_now_lots_product cp1_now_lots_last cp1_now_lots_cost cp1_now_lots_state cp1_now_lots_byLast cp1_now_orders_count cp1_now_orders_gifts cp1_now_orders_customer cp1_now_orders_product cp1_now_orders_open cp1_now_orders_due cp1_now_orders_life cp1_now_orders_byDue cp1_now_orders_had cp1_now_orders_stamps cp3 = some (3, cp1_acts, cp1_nextSlot, cp1_hk, cp1_st, cp1_now_orders_count, cp1_now_orders_customer, cp1_now_orders_product, cp1_now_orders_open, cp1_now_orders_due, cp1_now_orders_life, cp1_now_orders_byDue, cp1_now_orders_had, cp1_now_orders_stamps, cp3) := by
      unfold f_W_order f_X7_order
      rw [if_neg c0a, if_pos c0b, e7, if_pos c1]
      simp only [bnd1, bnd14, Option.bind_some, mx, n_range]
      simp only [if_pos c2, if_pos c3, if_pos c4, if_pos c5]
      unfold f_X7_order_J76
      simp only [bnd1, n_needState, Option.bind_some, mx, ↓reduceIte, String.reduceEq]
    have h2 : f_Y8_order v1 v2 v3 v4 v5 cp2_raised cp2_undos cp2_eldest cp2_w cp2_kept = some (0, 3, cp2_undos, cp2_eldest, cp2_w, cp2_kept) := by
      unfold f_Y8_order
      rw [n_in, if_pos c0]
      simp only [bnd1, Option.bind_some, if_neg one_ne]
      rw [e8, if_pos c1]
      simp only [Option.bind_some, if_neg one_ne]
      unfold f_Y8_order_J24
      simp only [bnd1, bnd2, Option.bind_some, can_t, if_neg one_ne, n_in]
      simp only [if_pos c2, if_neg one_ne]
      rw [gd_2450 (by decide) (by decide), w0, if_pos c3]
      simp only [if_neg one_ne, if_pos c4]
      unfold f_Y8_order_J76
      simp only [bnd2, Option.bind_some, can_t, if_neg one_ne]
      rw [gd_2450 (by decide) (by decide), w7, if_pos c5]
      unfold f_Y8_order_J103
      simp only [bnd2, Option.bind_some, can_f0, ↓reduceIte]
    refine ⟨?we, ?pe, ?qe⟩
    case pe =>
      rw [fc_20, h1]
      simp only [bnd15, Option.bind_some]
      rw [h2]
      simp only [bnd1, bnd6, Option.bind_some, f_Y8_thrown]
      exact fin_1 (show ¬ (3 : Int32) = 0 by decide)
    case qe =>
      rw [R_mk]
      exact hR
  have o40 : cp1_now_orders_count < 40 := by clear hR m1 m2 m3; grind
  obtain ⟨r, r1, r2, r3, r4⟩ := ins_loop (c := cp1_now_orders_count) (k := v4) (key := cp1_now_orders_due) (obd := cp1_now_orders_byDue) (g := fun z : Int32 × (Nat → Int32) => f_X2_add_L17 v1 v2 v3 v4 v5 cp1_now_orders_count cp1_now_orders_customer cp1_now_orders_product cp1_now_orders_open cp1_now_orders_due cp1_now_orders_life cp1_now_orders_had cp1_now_orders_stamps z.1 z.2) d25 o40 a8 (by
    intro n f hn
    dsimp only
    unfold f_X2_add_L17
    rw [if_pos hn]) (by
    intro n f hn hc b0 b1
    dsimp only
    have nn : ¬ n ≤ 0 := by clear hR m1 m2 m3; grind
    have n0 : 0 ≤ n - 1 := by clear hR m1 m2 m3; grind
    have n1 : n - 1 < 40 := by clear hR m1 m2 m3; grind
    have n2 : 0 ≤ n := by clear hR m1 m2 m3; grind
    have n3 : n < 40 := by clear hR m1 m2 m3; grind
    unfold f_X2_add_L17
    rw [if_neg nn, gd_40 n0 n1]
    show bnd1 (f_X2_dueOf (ix f (n - 1)) _ _) _ = _
    unfold f_X2_dueOf
    rw [n_exO _ _ d26, if_pos ⟨b0, b1⟩]
    simp only [bnd1, Option.bind_some, if_neg one_ne]
    rw [gd_40 b0 (by clear hR m1 m2 m3; grind)]
    simp only [Option.bind_some]
    rw [gd_40 n0 n1, gd_40 n2 n3])
  obtain ⟨m, f⟩ := r
  dsimp only at r1 r2 r3 r4
  obtain ⟨y, y1, y2, y3⟩ := zr_loop (c := cp1_now_orders_count) (a1 := upd cp1_now_orders_customer cp1_now_orders_count.toNatClampNeg v1) (a2 := upd cp1_now_orders_product cp1_now_orders_count.toNatClampNeg v2) (a3 := upd cp1_now_orders_open cp1_now_orders_count.toNatClampNeg v3) (a4 := upd cp1_now_orders_due cp1_now_orders_count.toNatClampNeg v4) (a5 := upd cp1_now_orders_life cp1_now_orders_count.toNatClampNeg v5) (a6 := upd f m.toNatClampNeg cp1_now_orders_count) (had := cp1_now_orders_had) (st := cp1_now_orders_stamps) d25 o40
  obtain ⟨ha, st⟩ := y
  dsimp only at y1 y2 y3
  have hadd : f_X2_add v1 v2 v3 v4 v5 cp1_now_orders_count cp1_now_orders_customer cp1_now_orders_product cp1_now_orders_open cp1_now_orders_due cp1_now_orders_life cp1_now_orders_byDue cp1_now_orders_had cp1_now_orders_stamps = some (cp1_now_orders_count, cp1_now_orders_count + 1, upd cp1_now_orders_customer cp1_now_orders_count.toNatClampNeg v1, upd cp1_now_orders_product cp1_now_orders_count.toNatClampNeg v2, upd cp1_now_orders_open cp1_now_orders_count.toNatClampNeg v3, upd cp1_now_orders_due cp1_now_orders_count.toNatClampNeg v4, upd cp1_now_orders_life cp1_now_orders_count.toNatClampNeg v5, upd f m.toNatClampNeg cp1_now_orders_count, ha, st) := by
    unfold f_X2_add
    rw [if_pos o40, r1]
    simp only [bnd2, Option.bind_some]
    rw [gd_40 r2 (by clear hR m1 m2 m3; grind), gd_40 d25 o40, gd_40 d25 o40, gd_40 d25 o40, gd_40 d25 o40, gd_40 d25 o40, y1]
    simp only [Option.bind_some]
    rw [show cp1_now_orders_count + 1 - 1 = cp1_now_orders_count by clear hR m1 m2 m3; grind]
  · skip
    have h1 : f_W_order v1 v2 v3 v4 v5 cp1_acts cp1_nextSlot cp1_hk cp1_st cp1_now_today cp1_now_products cp1_now_itemCount cp1_now_items cp1_now_books cp1_now_terms cp1_now_shelves_lanes cp1_now_shelves_positions cp1_now_shelves_room cp1_now_shelves_gap cp1_now_shelves_places cp1_now_shelves_picked cp1_now_shelves_lot cp1_now_shelves_pieces cp1_now_shelves_mark cp1_now_shelves_byDistance cp1_now_lots_count cp1_now_lots_product cp1_now_lots_last cp1_now_lots_cost cp1_now_lots_state cp1_now_lots_byLast cp1_now_orders_count cp1_now_orders_gifts cp1_now_orders_customer cp1_now_orders_product cp1_now_orders_open cp1_now_orders_due cp1_now_orders_life cp1_now_orders_byDue cp1_now_orders_had cp1_now_orders_stamps cp3 = some (0, a', ns', hk', st', cp1_now_orders_count + 1, upd cp1_now_orders_customer cp1_now_orders_count.toNatClampNeg v1, upd cp1_now_orders_product cp1_now_orders_count.toNatClampNeg v2, upd cp1_now_orders_open cp1_now_orders_count.toNatClampNeg v3, upd cp1_now_orders_due cp1_now_orders_count.toNatClampNeg v4, upd cp1_now_orders_life cp1_now_orders_count.toNatClampNeg v5, upd f m.toNatClampNeg cp1_now_orders_count, ha, st, vp_updL cp3 (0 : Int32).toNatClampNeg cp1_now_orders_count.toInt64) := by
      unfold f_W_order f_X7_order
      rw [if_neg c0a, if_pos c0b, e7, if_pos c1]
      simp only [bnd1, bnd14, Option.bind_some, mx, n_range]
      simp only [if_pos c2, if_pos c3, if_pos c4, if_neg c5]
      unfold f_X7_order_J76
      simp only [bnd1, bnd4, bnd10, n_needState, Option.bind_some, mx, if_neg one_ne]
      rw [m1]
      simp only [Option.bind_some]
      rw [hadd]
      simp only [Option.bind_some]
      rw [gd_1 (by decide) (by decide)]
    have h2 : f_Y8_order v1 v2 v3 v4 v5 cp2_raised cp2_undos cp2_eldest cp2_w cp2_kept = some (cp1_now_orders_count, 0, u', e', (upd (upd (upd (upd (upd (upd cp2_w (7 : Int32).toNatClampNeg (cp1_now_orders_count + 1)) (303 + cp1_now_orders_count).toNatClampNeg v1) (343 + cp1_now_orders_count).toNatClampNeg v2) (383 + cp1_now_orders_count).toNatClampNeg v3) (423 + cp1_now_orders_count).toNatClampNeg v4) (463 + cp1_now_orders_count).toNatClampNeg (v4 + v5)), k') := by
      unfold f_Y8_order
      rw [n_in, if_pos c0]
      simp only [bnd1, Option.bind_some, if_neg one_ne]
      rw [e8, if_pos c1]
      simp only [Option.bind_some, if_neg one_ne]
      unfold f_Y8_order_J24
      simp only [bnd1, bnd2, Option.bind_some, can_t, if_neg one_ne, n_in]
      simp only [if_pos c2, if_neg one_ne]
      rw [gd_2450 (by decide) (by decide), w0, if_pos c3]
      simp only [if_neg one_ne, if_pos c4]
      unfold f_Y8_order_J76
      simp only [bnd2, Option.bind_some, can_t, if_neg one_ne]
      rw [gd_2450 (by decide) (by decide), w7, if_neg c5]
      unfold f_Y8_order_J103
      simp only [bnd2, bnd3, Option.bind_some, can_t, if_neg one_ne]
      rw [m2]
      simp only [Option.bind_some]
      rw [gd_2450 (by decide) (by decide), gd_2450 (by decide) (by decide), gd_2450 (by decide) (by decide), w7, gd_2450 (by clear hR m1 m2 m3; grind) (by clear hR m1 m2 m3; grind), gd_2450 (by clear hR m1 m2 m3; grind) (by clear hR m1 m2 m3; grind), gd_2450 (by clear hR m1 m2 m3; grind) (by clear hR m1 m2 m3; grind), gd_2450 (by clear hR m1 m2 m3; grind) (by clear hR m1 m2 m3; grind), gd_2450 (by clear hR m1 m2 m3; grind) (by clear hR m1 m2 m3; grind)]
    have hAG : ∀ A B : Int32, 0 ≤ A → (B ≤ 7 ∨ (8 ≤ A ∧ B ≤ 303) ∨ 503 ≤ A) → AG A B cp2_w (upd (upd (upd (upd (upd (upd cp2_w (7 : Int32).toNatClampNeg (cp1_now_orders_count + 1)) (303 + cp1_now_orders_count).toNatClampNeg v1) (343 + cp1_now_orders_count).toNatClampNeg v2) (383 + cp1_now_orders_count).toNatClampNeg v3) (423 + cp1_now_orders_count).toNatClampNeg v4) (463 + cp1_now_orders_count).toNatClampNeg (v4 + v5)) := fun A B hA h => (((((AG.rf.up hA (by clear hR m1 m2 m3; grind) (by clear hR m1 m2 m3; grind)).up hA (by clear hR m1 m2 m3; grind) (by clear hR m1 m2 m3; grind)).up hA (by clear hR m1 m2 m3; grind) (by clear hR m1 m2 m3; grind)).up hA (by clear hR m1 m2 m3; grind) (by clear hR m1 m2 m3; grind)).up hA (by clear hR m1 m2 m3; grind) (by clear hR m1 m2 m3; grind)).up hA (by clear hR m1 m2 m3; grind) (by clear hR m1 m2 m3; grind)
    have t7 : (upd (upd (upd (upd (upd (upd cp2_w (7 : Int32).toNatClampNeg (cp1_now_orders_count + 1)) (303 + cp1_now_orders_count).toNatClampNeg v1) (343 + cp1_now_orders_count).toNatClampNeg v2) (383 + cp1_now_orders_count).toNatClampNeg v3) (423 + cp1_now_orders_count).toNatClampNeg v4) (463 + cp1_now_orders_count).toNatClampNeg (v4 + v5)) 7 = cp1_now_orders_count + 1 := by
      show (upd (upd (upd (upd (upd (upd cp2_w (7 : Int32).toNatClampNeg (cp1_now_orders_count + 1)) (303 + cp1_now_orders_count).toNatClampNeg v1) (343 + cp1_now_orders_count).toNatClampNeg v2) (383 + cp1_now_orders_count).toNatClampNeg v3) (423 + cp1_now_orders_count).toNatClampNeg v4) (463 + cp1_now_orders_count).toNatClampNeg (v4 + v5)) (7 : Int32).toNatClampNeg = _
      rw [upd_ne (by clear hR m1 m2 m3; grind) (by clear hR m1 m2 m3; grind) (by clear hR m1 m2 m3; grind), upd_ne (by clear hR m1 m2 m3; grind) (by clear hR m1 m2 m3; grind) (by clear hR m1 m2 m3; grind), upd_ne (by clear hR m1 m2 m3; grind) (by clear hR m1 m2 m3; grind) (by clear hR m1 m2 m3; grind), upd_ne (by clear hR m1 m2 m3; grind) (by clear hR m1 m2 m3; grind) (by clear hR m1 m2 m3; grind), upd_ne (by clear hR m1 m2 m3; grind) (by clear hR m1 m2 m3; grind) (by clear hR m1 m2 m3; grind), upd_same]
    have q7 := QO_new (w' := (upd (upd (upd (upd (upd (upd cp2_w (7 : Int32).toNatClampNeg (cp1_now_orders_count + 1)) (303 + cp1_now_orders_count).toNatClampNeg v1) (343 + cp1_now_orders_count).toNatClampNeg v2) (383 + cp1_now_orders_count).toNatClampNeg v3) (423 + cp1_now_orders_count).toNatClampNeg v4) (463 + cp1_now_orders_count).toNatClampNeg (v4 + v5))) d25 o40 a7 c0 c1 c2 ⟨by clear hR m1 m2 m3; grind, c3.2⟩ c4 (by
      intro n n0 n1
      refine ⟨?_, ?_, ?_, ?_, ?_⟩
      · unfold ix; by_cases hn : n = cp1_now_orders_count
        · subst hn; rw [if_pos rfl, upd_ne (by clear hR m1 m2 m3; grind) (by clear hR m1 m2 m3; grind) (by clear hR m1 m2 m3; grind), upd_ne (by clear hR m1 m2 m3; grind) (by clear hR m1 m2 m3; grind) (by clear hR m1 m2 m3; grind), upd_ne (by clear hR m1 m2 m3; grind) (by clear hR m1 m2 m3; grind) (by clear hR m1 m2 m3; grind), upd_ne (by clear hR m1 m2 m3; grind) (by clear hR m1 m2 m3; grind) (by clear hR m1 m2 m3; grind), upd_same]
        · rw [if_neg hn, upd_ne (by clear hR m1 m2 m3; grind) (by clear hR m1 m2 m3; grind) (by clear hR m1 m2 m3; grind), upd_ne (by clear hR m1 m2 m3; grind) (by clear hR m1 m2 m3; grind) (by clear hR m1 m2 m3; grind), upd_ne (by clear hR m1 m2 m3; grind) (by clear hR m1 m2 m3; grind) (by clear hR m1 m2 m3; grind), upd_ne (by clear hR m1 m2 m3; grind) (by clear hR m1 m2 m3; grind) (by clear hR m1 m2 m3; grind), upd_ne (by clear hR m1 m2 m3; grind) (by clear hR m1 m2 m3; grind) (by clear hR m1 m2 m3; grind), upd_ne (by clear hR m1 m2 m3; grind) (by clear hR m1 m2 m3; grind) (by clear hR m1 m2 m3; grind)]
      · unfold ix; by_cases hn : n = cp1_now_orders_count
        · subst hn; rw [if_pos rfl, upd_ne (by clear hR m1 m2 m3; grind) (by clear hR m1 m2 m3; grind) (by clear hR m1 m2 m3; grind), upd_ne (by clear hR m1 m2 m3; grind) (by clear hR m1 m2 m3; grind) (by clear hR m1 m2 m3; grind), upd_ne (by clear hR m1 m2 m3; grind) (by clear hR m1 m2 m3; grind) (by clear hR m1 m2 m3; grind), upd_same]
        · rw [if_neg hn, upd_ne (by clear hR m1 m2 m3; grind) (by clear hR m1 m2 m3; grind) (by clear hR m1 m2 m3; grind), upd_ne (by clear hR m1 m2 m3; grind) (by clear hR m1 m2 m3; grind) (by clear hR m1 m2 m3; grind), upd_ne (by clear hR m1 m2 m3; grind) (by clear hR m1 m2 m3; grind) (by clear hR m1 m2 m3; grind), upd_ne (by clear hR m1 m2 m3; grind) (by clear hR m1 m2 m3; grind) (by clear hR m1 m2 m3; grind), upd_ne (by clear hR m1 m2 m3; grind) (by clear hR m1 m2 m3; grind) (by clear hR m1 m2 m3; grind), upd_ne (by clear hR m1 m2 m3; grind) (by clear hR m1 m2 m3; grind) (by clear hR m1 m2 m3; grind)]
      · unfold ix; by_cases hn : n = cp1_now_orders_count
        · subst hn; rw [if_pos rfl, upd_ne (by clear hR m1 m2 m3; grind) (by clear hR m1 m2 m3; grind) (by clear hR m1 m2 m3; grind), upd_ne (by clear hR m1 m2 m3; grind) (by clear hR m1 m2 m3; grind) (by clear hR m1 m2 m3; grind), upd_same]
        · rw [if_neg hn, upd_ne (by clear hR m1 m2 m3; grind) (by clear hR m1 m2 m3; grind) (by clear hR m1 m2 m3; grind), upd_ne (by clear hR m1 m2 m3; grind) (by clear hR m1 m2 m3; grind) (by clear hR m1 m2 m3; grind), upd_ne (by clear hR m1 m2 m3; grind) (by clear hR m1 m2 m3; grind) (by clear hR m1 m2 m3; grind), upd_ne (by clear hR m1 m2 m3; grind) (by clear hR m1 m2 m3; grind) (by clear hR m1 m2 m3; grind), upd_ne (by clear hR m1 m2 m3; grind) (by clear hR m1 m2 m3; grind) (by clear hR m1 m2 m3; grind), upd_ne (by clear hR m1 m2 m3; grind) (by clear hR m1 m2 m3; grind) (by clear hR m1 m2 m3; grind)]
      · unfold ix; by_cases hn : n = cp1_now_orders_count
        · subst hn; rw [if_pos rfl, upd_ne (by clear hR m1 m2 m3; grind) (by clear hR m1 m2 m3; grind) (by clear hR m1 m2 m3; grind), upd_same]
        · rw [if_neg hn, upd_ne (by clear hR m1 m2 m3; grind) (by clear hR m1 m2 m3; grind) (by clear hR m1 m2 m3; grind), upd_ne (by clear hR m1 m2 m3; grind) (by clear hR m1 m2 m3; grind) (by clear hR m1 m2 m3; grind), upd_ne (by clear hR m1 m2 m3; grind) (by clear hR m1 m2 m3; grind) (by clear hR m1 m2 m3; grind), upd_ne (by clear hR m1 m2 m3; grind) (by clear hR m1 m2 m3; grind) (by clear hR m1 m2 m3; grind), upd_ne (by clear hR m1 m2 m3; grind) (by clear hR m1 m2 m3; grind) (by clear hR m1 m2 m3; grind), upd_ne (by clear hR m1 m2 m3; grind) (by clear hR m1 m2 m3; grind) (by clear hR m1 m2 m3; grind)]
      · unfold ix; by_cases hn : n = cp1_now_orders_count
        · subst hn; rw [if_pos rfl, upd_same]
        · rw [if_neg hn, upd_ne (by clear hR m1 m2 m3; grind) (by clear hR m1 m2 m3; grind) (by clear hR m1 m2 m3; grind), upd_ne (by clear hR m1 m2 m3; grind) (by clear hR m1 m2 m3; grind) (by clear hR m1 m2 m3; grind), upd_ne (by clear hR m1 m2 m3; grind) (by clear hR m1 m2 m3; grind) (by clear hR m1 m2 m3; grind), upd_ne (by clear hR m1 m2 m3; grind) (by clear hR m1 m2 m3; grind) (by clear hR m1 m2 m3; grind), upd_ne (by clear hR m1 m2 m3; grind) (by clear hR m1 m2 m3; grind) (by clear hR m1 m2 m3; grind), upd_ne (by clear hR m1 m2 m3; grind) (by clear hR m1 m2 m3; grind) (by clear hR m1 m2 m3; grind)])
    have q1 : QD cp1_now_today cp1_now_products cp1_now_shelves_lanes cp1_now_shelves_positions cp1_now_shelves_room cp1_now_shelves_gap cp1_now_shelves_places cp1_now_lots_count (cp1_now_orders_count + 1) (upd (upd (upd (upd (upd (upd cp2_w (7 : Int32).toNatClampNeg (cp1_now_orders_count + 1)) (303 + cp1_now_orders_count).toNatClampNeg v1) (343 + cp1_now_orders_count).toNatClampNeg v2) (383 + cp1_now_orders_count).toNatClampNeg v3) (423 + cp1_now_orders_count).toNatClampNeg v4) (463 + cp1_now_orders_count).toNatClampNeg (v4 + v5)) := by
      have z : AG 0 7 cp2_w (upd (upd (upd (upd (upd (upd cp2_w (7 : Int32).toNatClampNeg (cp1_now_orders_count + 1)) (303 + cp1_now_orders_count).toNatClampNeg v1) (343 + cp1_now_orders_count).toNatClampNeg v2) (383 + cp1_now_orders_count).toNatClampNeg v3) (423 + cp1_now_orders_count).toNatClampNeg v4) (463 + cp1_now_orders_count).toNatClampNeg (v4 + v5)) := hAG 0 7 (by decide) (by decide)
      exact ⟨(z 0 (by decide) (by decide)).trans d0, d1, d2, (z 1 (by decide) (by decide)).trans d3, d4, d5, (z 2 (by decide) (by decide)).trans d6, d7, d8, (z 3 (by decide) (by decide)).trans d9, d10, d11, (z 4 (by decide) (by decide)).trans d12, d13, d14, d15, d16, d17, (z 5 (by decide) (by decide)).trans d18, d19, d20, (z 6 (by decide) (by decide)).trans d21, d22, d23, t7, by clear hR m1 m2 m3; grind, by clear hR m1 m2 m3; grind⟩
    have q9 := QH_new (w' := (upd (upd (upd (upd (upd (upd cp2_w (7 : Int32).toNatClampNeg (cp1_now_orders_count + 1)) (303 + cp1_now_orders_count).toNatClampNeg v1) (343 + cp1_now_orders_count).toNatClampNeg v2) (383 + cp1_now_orders_count).toNatClampNeg v3) (423 + cp1_now_orders_count).toNatClampNeg v4) (463 + cp1_now_orders_count).toNatClampNeg (v4 + v5))) d25 o40 a9 a10 (hAG _ _ (by decide) (by decide)) y2 y3
    have q10 := QG_new (w' := (upd (upd (upd (upd (upd (upd cp2_w (7 : Int32).toNatClampNeg (cp1_now_orders_count + 1)) (303 + cp1_now_orders_count).toNatClampNeg v1) (343 + cp1_now_orders_count).toNatClampNeg v2) (383 + cp1_now_orders_count).toNatClampNeg v3) (423 + cp1_now_orders_count).toNatClampNeg v4) (463 + cp1_now_orders_count).toNatClampNeg (v4 + v5))) d25 o40 a10 (hAG _ _ (by decide) (by decide)) (hAG _ _ (by decide) (by decide)) y2 y3
    have q11 := QS_new (v := v3) d25 o40 a11 c2.1 c2.2 (fun m m0 m1 => (y2 m m0 m1).1) (fun n m n0 n1 n2 m0 m1 => (y3 n m n0 n1 n2 m0 m1).1)
    refine ⟨?wf, ?pf, ?qf⟩
    case pf =>
      rw [fc_20, h1]
      simp only [bnd15, Option.bind_some]
      rw [h2]
      simp only [bnd1, bnd6, Option.bind_some, f_Y8_thrown]
      refine fin_0 ?_
      rfl
    case qf =>
      rw [R_mk]
      refine ⟨?_, hR.2.1, m3, hR.2.2.2⟩
      rw [RS_mk]
      exact ⟨q1, QB_ag (hAG _ _ (by decide) (by decide)) a2, QP_ag d17 (hAG _ _ (by decide) (by decide)) a3, QK_ag (hAG _ _ (by decide) (by decide)) a4, QL_ag d23 (hAG _ _ (by decide) (by decide)) a5, a6, q7, r4, q9, q10, q11, QI_ag (hAG _ _ (by decide) (by decide)) a12, QT_ag (hAG _ _ (by decide) (by decide)) a13, a14, a15⟩

