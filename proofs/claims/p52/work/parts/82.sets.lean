/-! ===== boxes: sets of items as bits ===== -/
def dif (s x : Nat) : Nat := s &&& (x ^^^ 4294967295)
def Sb (x s : Nat) : Prop := ∀ k, x.testBit k = true → s.testBit k = true
theorem dif_bit {s x k : Nat} (hs : s < 4294967296) : (dif s x).testBit k = (s.testBit k && !(x.testBit k)) := by
  unfold dif
  rw [Nat.testBit_and, Nat.testBit_xor, show (4294967295 : Nat) = 2 ^ 32 - 1 from rfl, Nat.testBit_two_pow_sub_one]
  by_cases h : k < 32
  · simp [h]
  · have : s.testBit k = false := Nat.testBit_lt_two_pow (Nat.lt_of_lt_of_le hs (show (4294967296 : Nat) ≤ 2 ^ k from by
      rw [show (4294967296 : Nat) = 2 ^ 32 from rfl]; exact Nat.pow_le_pow_right (by decide) (by omega)))
    simp [this]
theorem dif_le {s x : Nat} : dif s x ≤ s := Nat.and_le_left
theorem dif_lt {s x : Nat} (hs : s < 4294967296) (hx : Sb x s) (h0 : x ≠ 0) : dif s x < s := by
  refine Nat.lt_of_le_of_ne dif_le (fun e => ?_)
  obtain ⟨k, hk⟩ := Nat.exists_testBit_of_ne_zero h0
  have a := dif_bit (x := x) (k := k) hs
  rw [e, hk, hx k hk] at a
  exact absurd a (by decide)
def sz (a : Nat → Nat) : Nat → Nat → Nat
  | 0, _ => 0
  | n + 1, s => sz a n s + if s.testBit n then a n else 0
theorem sz_eq {a : Nat → Nat} {s t : Nat} : ∀ n : Nat, (∀ k, k < n → s.testBit k = t.testBit k) → sz a n s = sz a n t := by
  intro n
  induction n with
  | zero => intro _; rfl
  | succ n ih => intro h; unfold sz; rw [ih (fun k hk => h k (by omega)), h n (by omega)]
theorem sz_one {a : Nat → Nat} {s t i : Nat} (hs : s.testBit i = true) (ht : t.testBit i = false) (h : ∀ k, k ≠ i → t.testBit k = s.testBit k) : ∀ n : Nat, sz a n s = sz a n t + if i < n then a i else 0 := by
  intro n
  induction n with
  | zero => rw [if_neg (by omega)]; rfl
  | succ n ih =>
    unfold sz
    rw [ih]
    by_cases e : i = n
    · subst e
      rw [hs, ht, if_neg (Nat.lt_irrefl i), if_pos (Nat.lt_succ_self i)]; simp
    · rw [h n (fun z => e z.symm)]
      by_cases l : i < n
      · rw [if_pos l, if_pos (Nat.lt_succ_of_lt l)]; omega
      · have l2 : ¬ i < n + 1 := by omega
        rw [if_neg l, if_neg l2]; omega
theorem sz_0 {a : Nat → Nat} : ∀ n : Nat, sz a n 0 = 0 := by
  intro n
  induction n with
  | zero => rfl
  | succ n ih => unfold sz; rw [ih]; simp
theorem p2_bit {i k : Nat} : (2 ^ i).testBit k = decide (i = k) := Nat.testBit_two_pow
theorem p2_sub {s i : Nat} (h : s.testBit i = true) : Sb (2 ^ i) s := fun k hk => by
  rw [p2_bit] at hk
  have : i = k := of_decide_eq_true hk
  rw [← this]; exact h
theorem p2_ne (i : Nat) : (2 : Nat) ^ i ≠ 0 := Nat.ne_of_gt (Nat.two_pow_pos i)
theorem sz_p2 {a : Nat → Nat} {n i : Nat} (h : i < n) : sz a n (2 ^ i) = a i := by
  rw [sz_one (i := i) (s := 2 ^ i) (t := 0) (by rw [p2_bit]; simp) (by simp) (fun k hk => by rw [p2_bit]; simp; exact fun z => hk z.symm) n, sz_0, if_pos h, Nat.zero_add]
/-- an item out of a set -/
theorem sz_dif {a : Nat → Nat} {n s i : Nat} (hs : s < 4294967296) (h : i < n) (hi : s.testBit i = true) : sz a n (dif s (2 ^ i)) + a i = sz a n s := by
  rw [sz_one (i := i) (s := s) (t := dif s (2 ^ i)) hi (by rw [dif_bit hs, p2_bit]; simp) (fun k hk => by rw [dif_bit hs, p2_bit]; simp; intro _; exact fun z => hk z.symm) n, if_pos h]
theorem sb_dif {s y j : Nat} (hy : y < 4294967296) (hs : s < 4294967296) (h : Sb y s) : Sb (dif y (2 ^ j)) (dif s (2 ^ j)) := fun k hk => by
  rw [dif_bit hy] at hk
  rw [dif_bit hs]
  simp at hk ⊢
  exact ⟨h k hk.1, hk.2⟩
theorem dif_dif {s y j : Nat} (hy : y < 4294967296) (hs : s < 4294967296) (hj : y.testBit j = true) : dif (dif s (2 ^ j)) (dif y (2 ^ j)) = dif s y := by
  refine Nat.eq_of_testBit_eq (fun k => ?_)
  rw [dif_bit (Nat.lt_of_le_of_lt dif_le hs), dif_bit hs, dif_bit hy, dif_bit hs, p2_bit]
  by_cases e : j = k
  · subst e; simp [hj]
  · simp [e]
theorem sb_or {s x i : Nat} (hs : s < 4294967296) (hi : s.testBit i = true) (h : Sb x (dif s (2 ^ i))) : Sb (x ||| 2 ^ i) s ∧ dif s (x ||| 2 ^ i) = dif (dif s (2 ^ i)) x ∧ x.testBit i = false := by
  refine ⟨fun k hk => ?_, ?_, ?_⟩
  · rw [Nat.testBit_or, p2_bit] at hk
    by_cases e : i = k
    · rw [← e]; exact hi
    · simp [e] at hk
      have := h k hk
      rw [dif_bit hs] at this
      simp at this
      exact this.1
  · refine Nat.eq_of_testBit_eq (fun k => ?_)
    rw [dif_bit (Nat.lt_of_le_of_lt dif_le hs), dif_bit hs, dif_bit hs, Nat.testBit_or]
    cases s.testBit k <;> cases x.testBit k <;> cases (2 ^ i).testBit k <;> rfl
  · cases e : x.testBit i with
    | false => rfl
    | true =>
      have := h i e
      rw [dif_bit hs, p2_bit] at this
      simp at this
theorem sz_or {a : Nat → Nat} {n x i : Nat} (h : i < n) (hi : x.testBit i = false) : sz a n (x ||| 2 ^ i) = sz a n x + a i := by
  rw [sz_one (i := i) (s := x ||| 2 ^ i) (t := x) (by rw [Nat.testBit_or, p2_bit]; simp) hi (fun k hk => by rw [Nat.testBit_or, p2_bit]; simp; intro z; exact absurd z.symm hk) n, if_pos h]
/-- an item laid into the latest box, or into a new one -/
def wit (S v a : Nat) : Nat := if S < v % 64 + a then (v / 64 + 1) * 64 + a else v + a
/-- the fewest boxes: both tables -/
theorem bx_comb {a pk bx : Nat → Nat} {n S : Nat} (hn : n ≤ 32) (hS : S ≤ 40) (ha : ∀ i, i < n → 1 ≤ a i ∧ a i ≤ S) (p0 : pk 0 = S) (b0 : bx 0 = 0)
    (p1 : ∀ s, 1 ≤ s → s < 2 ^ n → ∃ i, i < n ∧ s.testBit i = true ∧ pk s = wit S (pk (dif s (2 ^ i))) (a i))
    (p2 : ∀ s, 1 ≤ s → s < 2 ^ n → ∀ i, i < n → s.testBit i = true → pk s ≤ wit S (pk (dif s (2 ^ i))) (a i))
    (b1 : ∀ s, 1 ≤ s → s < 2 ^ n → ∃ x, x ≠ 0 ∧ Sb x s ∧ sz a n x ≤ S ∧ bx s = bx (dif s x) + 1)
    (b2 : ∀ s, 1 ≤ s → s < 2 ^ n → ∀ x, x ≠ 0 → Sb x s → sz a n x ≤ S → bx s ≤ bx (dif s x) + 1) :
    ∀ s, s < 2 ^ n → ∃ f, f ≤ S ∧ pk s = 64 * bx s + f ∧ (s = 0 → f = S) ∧ (s ≠ 0 → (∃ x, x ≠ 0 ∧ Sb x s ∧ sz a n x = f ∧ bx s = bx (dif s x) + 1) ∧ ∀ x, x ≠ 0 → Sb x s → sz a n x ≤ S → bx s = bx (dif s x) + 1 → f ≤ sz a n x) := by
  have h32 : ∀ s, s < 2 ^ n → s < 4294967296 := fun s hs => Nat.lt_of_lt_of_le hs (by rw [show (4294967296 : Nat) = 2 ^ 32 from rfl]; exact Nat.pow_le_pow_right (by decide) hn)
  have hsb : ∀ x s, Sb x s → s < 2 ^ n → x < 2 ^ n := fun x s hx hs => by
    refine Nat.lt_pow_two_of_testBit x (fun i hi => ?_)
    cases e : x.testBit i with
    | false => rfl
    | true =>
      have a1 := hx i e
      rw [Nat.testBit_lt_two_pow (Nat.lt_of_lt_of_le hs (Nat.pow_le_pow_right (by decide) hi))] at a1
      exact absurd a1 (by decide)
  have hbit : ∀ x i, x < 2 ^ n → x.testBit i = true → i < n := fun x i hx hi => by
    by_cases z : i < n
    · exact z
    · rw [Nat.testBit_lt_two_pow (Nat.lt_of_lt_of_le hx (Nat.pow_le_pow_right (by decide) (by omega)))] at hi
      exact absurd hi (by decide)
  intro s
  induction s using Nat.strongRecOn with
  | ind s ih =>
    intro hs
    by_cases hs0 : s = 0
    · exact ⟨S, Nat.le_refl _, by rw [hs0, p0, b0]; omega, fun _ => rfl, fun z => absurd hs0 z⟩
    have s1 : 1 ≤ s := by omega
    have s32 := h32 s hs
    -- a candidate out of the class's table
    obtain ⟨i, i1, i2, i3⟩ := p1 s s1 hs
    have c1 : ∃ b f, pk s = 64 * b + f ∧ f ≤ S ∧ 1 ≤ b ∧ ∃ x, x ≠ 0 ∧ Sb x s ∧ sz a n x = f ∧ b = bx (dif s x) + 1 := by
      have tl : dif s (2 ^ i) < s := dif_lt s32 (p2_sub i2) (p2_ne i)
      obtain ⟨f, f1, f2, f3, f4⟩ := ih _ tl (by omega)
      obtain ⟨ai1, ai2⟩ := ha i i1
      rw [i3]
      unfold wit
      rw [f2, show (64 * bx (dif s (2 ^ i)) + f) % 64 = f by omega, show (64 * bx (dif s (2 ^ i)) + f) / 64 = bx (dif s (2 ^ i)) by omega]
      by_cases l : S < f + a i
      · rw [if_pos l]
        exact ⟨bx (dif s (2 ^ i)) + 1, a i, by omega, ai2, by omega, 2 ^ i, p2_ne i, p2_sub i2, sz_p2 i1, rfl⟩
      · rw [if_neg l]
        have ne : dif s (2 ^ i) ≠ 0 := fun z => by have := f3 z; omega
        obtain ⟨⟨x, x1, x2, x3, x4⟩, -⟩ := f4 ne
        obtain ⟨y1, y2, y3⟩ := sb_or s32 i2 x2
        refine ⟨bx (dif s (2 ^ i)), f + a i, by omega, by omega, by omega, x ||| 2 ^ i, ?_, y1, ?_, ?_⟩
        · intro z
          have := congrArg (fun m => m.testBit i) z
          simp [Nat.testBit_or, p2_bit] at this
        · rw [sz_or i1 y3, x3]
        · rw [y2]; exact x4
    obtain ⟨b, f, g1, g2, g3, x, x1, x2, x3, x4⟩ := c1
    -- no candidate is better
    have c2 : ∀ y, y ≠ 0 → Sb y s → sz a n y ≤ S → 64 * b + f ≤ 64 * (bx (dif s y) + 1) + sz a n y := by
      intro y y0 y1 y2
      have yl := hsb y s y1 hs
      have y32 := h32 y yl
      obtain ⟨j, hj⟩ := Nat.exists_testBit_of_ne_zero y0
      have j1 := hbit y j yl hj
      have j2 := y1 j hj
      have tl : dif s (2 ^ j) < s := dif_lt s32 (p2_sub j2) (p2_ne j)
      have tn : dif s (2 ^ j) < 2 ^ n := by omega
      have q := p2 s s1 hs j j1 j2
      rw [g1] at q
      obtain ⟨ft, f1, f2, f3, f4⟩ := ih _ tl tn
      obtain ⟨aj1, aj2⟩ := ha j j1
      have sy := sz_dif (a := a) y32 j1 hj
      refine Nat.le_trans q ?_
      unfold wit
      rw [f2, show (64 * bx (dif s (2 ^ j)) + ft) % 64 = ft by omega, show (64 * bx (dif s (2 ^ j)) + ft) / 64 = bx (dif s (2 ^ j)) by omega]
      by_cases e : dif y (2 ^ j) = 0
      · have ey : dif s y = dif s (2 ^ j) := by
          have := dif_dif y32 s32 hj
          rw [e] at this
          rw [← this]
          refine Nat.eq_of_testBit_eq (fun k => ?_)
          rw [dif_bit (by omega)]; simp
        rw [ey]
        rw [e, sz_0] at sy
        by_cases l : S < ft + a j
        · rw [if_pos l]; omega
        · rw [if_neg l]; omega
      · have sbt := sb_dif (j := j) y32 s32 y1
        have dd := dif_dif y32 s32 hj
        have tne : dif s (2 ^ j) ≠ 0 := fun z => by
          obtain ⟨k, hk⟩ := Nat.exists_testBit_of_ne_zero e
          have := sbt k hk
          rw [z] at this
          simp at this
        have bt := b2 _ (by omega) tn _ e sbt (by omega)
        rw [dd] at bt
        by_cases eb : bx (dif s (2 ^ j)) = bx (dif s y) + 1
        · have := (f4 tne).2 _ e sbt (by omega) (by rw [dd]; exact eb)
          rw [if_neg (by omega)]
          omega
        · by_cases l : S < ft + a j
          · rw [if_pos l]; omega
          · rw [if_neg l]; omega
    have e1 : bx s ≤ b := by rw [x4]; exact b2 s s1 hs x x1 x2 (by omega)
    obtain ⟨z, z1, z2, z3, z4⟩ := b1 s s1 hs
    have e2 := c2 z z1 z2 z3
    rw [← z4] at e2
    have e3 : b = bx s := by omega
    refine ⟨f, g2, by rw [g1, e3], fun z => absurd z hs0, fun _ => ⟨⟨x, x1, x2, x3, by rw [← e3]; exact x4⟩, fun y y0 y1 y2 y3 => ?_⟩⟩
    have := c2 y y0 y1 y2
    omega
theorem of_and (a b : Nat) : Int32.ofNat a &&& Int32.ofNat b = Int32.ofNat (a &&& b) := by
  apply Int32.toBitVec_inj.mp
  simp
theorem of_xor (a b : Nat) : Int32.ofNat a ^^^ Int32.ofNat b = Int32.ofNat (a ^^^ b) := by
  apply Int32.toBitVec_inj.mp
  simp
theorem of_neg1 : (-1 : Int32) = Int32.ofNat 4294967295 := by decide
theorem of_dif (s x : Nat) : Int32.ofNat s &&& (Int32.ofNat x ^^^ (-1)) = Int32.ofNat (dif s x) := by
  rw [of_neg1, of_xor, of_and]; rfl
theorem of_shl : ∀ i : Nat, i < 9 → (1 : Int32) <<< (Int32.ofNat i &&& 31) = Int32.ofNat (2 ^ i) := by decide
theorem of_bit : ∀ s : Nat, s < 256 → ∀ i : Nat, i < 8 → ((Int32.ofNat s &&& ((1 : Int32) <<< (Int32.ofNat i &&& 31))) = 0 ↔ s.testBit i = false) := by decide +kernel
theorem of_shr : ∀ s : Nat, s < 256 → ∀ i : Nat, i < 8 → (((Int32.ofNat s >>> (Int32.ofNat i &&& 31)) &&& 1) = 1 ↔ s.testBit i = true) := by decide +kernel
theorem of_pred (s x : Nat) (h : 1 ≤ x) : (Int32.ofNat x - 1) &&& Int32.ofNat s = Int32.ofNat ((x - 1) &&& s) := by
  have : Int32.ofNat x - 1 = Int32.ofNat (x - 1) := by
    apply Int32.toBitVec_inj.mp
    obtain ⟨y, rfl⟩ : ∃ y, x = y + 1 := ⟨x - 1, by omega⟩
    simp [BitVec.ofNat_add]
  rw [this, of_and]
theorem sb_and {b s : Nat} (h : Sb b s) : b &&& s = b := by
  refine Nat.eq_of_testBit_eq (fun k => ?_)
  rw [Nat.testBit_and]
  cases e : b.testBit k with
  | false => rfl
  | true => rw [h k e]; rfl
theorem and_sb (b s : Nat) : Sb (b &&& s) s := fun k hk => by
  rw [Nat.testBit_and] at hk
  simp at hk
  exact hk.2
/-- the submasks of a set one after another -/
theorem sub_next : ∀ (s b x : Nat), Sb b s → Sb x s → x < b → x ≤ (b - 1) &&& s := by
  intro s
  induction s using Nat.strongRecOn with
  | ind s ih =>
    intro b x hb hx hl
    by_cases s0 : s = 0
    · exfalso
      have : b ≠ 0 := by omega
      obtain ⟨k, hk⟩ := Nat.exists_testBit_of_ne_zero this
      have := hb k hk
      rw [s0] at this
      simp at this
    have hb2 : Sb (b / 2) (s / 2) := fun k hk => by
      rw [← Nat.testBit_succ] at hk ⊢
      exact hb _ hk
    have hx2 : Sb (x / 2) (s / 2) := fun k hk => by
      rw [← Nat.testBit_succ] at hk ⊢
      exact hx _ hk
    have d1 : ((b - 1) &&& s) / 2 = (b - 1) / 2 &&& s / 2 := Nat.and_div_two
    have x0 : x % 2 = 1 → s % 2 = 1 := fun z => by
      have := hx 0 (by rw [Nat.testBit_zero]; simp [z])
      rw [Nat.testBit_zero] at this
      simpa using this
    by_cases o : b % 2 = 1
    · have : (b - 1) / 2 = b / 2 := by omega
      rw [this, sb_and hb2] at d1
      omega
    · have e1 : (b - 1) / 2 = b / 2 - 1 := by omega
      rw [e1] at d1
      have q := ih (s / 2) (by omega) (b / 2) (x / 2) hb2 hx2 (by omega)
      rw [← d1] at q
      have m1 : ((b - 1) &&& s) % 2 = 1 ↔ (b - 1) % 2 = 1 ∧ s % 2 = 1 := Nat.and_mod_two_eq_one
      omega
theorem on_k {k : Nat} (h : k < 100000) : (Int32.ofNat k).toNatClampNeg = k ∧ (Int32.ofNat k).toInt = k ∧ 0 ≤ Int32.ofNat k := by
  have e := i_of (k := k) (by omega)
  exact ⟨by rw [i_tn, e]; omega, e, by rw [i_le, e, show (0 : Int32).toInt = 0 from rfl]; omega⟩
theorem on_le {k m : Nat} (h : k < 100000) (hm : m < 100000) : Int32.ofNat k ≤ Int32.ofNat m ↔ k ≤ m := by
  rw [i_le, (on_k h).2.1, (on_k hm).2.1]; omega
theorem on_lt {k m : Nat} (h : k < 100000) (hm : m < 100000) : Int32.ofNat k < Int32.ofNat m ↔ k < m := by
  rw [i_lt, (on_k h).2.1, (on_k hm).2.1]; omega
theorem on_inc {k : Nat} : Int32.ofNat k + 1 = Int32.ofNat (k + 1) := by
  apply Int32.toBitVec_inj.mp
  simp [BitVec.ofNat_add]
theorem tn_le {a b : Int32} (h : 0 ≤ a) (hb : 0 ≤ b) : a ≤ b ↔ a.toNatClampNeg ≤ b.toNatClampNeg := by
  rw [i_le] at h hb
  rw [show (0 : Int32).toInt = 0 from rfl] at h hb
  rw [i_le, i_tn, i_tn]; omega
theorem n_wit {v a S : Int32} (v0 : 0 ≤ v) (v1 : v.toNatClampNeg ≤ 30000) (a0 : 0 ≤ a) (a1 : a ≤ 40) (s0 : 0 ≤ S) (s1 : S ≤ 40) : ∃ r, f_X7_withItem v a S = some r ∧ 0 ≤ r ∧ r.toNatClampNeg ≤ v.toNatClampNeg + 104 ∧ r.toNatClampNeg = wit S.toNatClampNeg v.toNatClampNeg a.toNatClampNeg := by
  rw [i_le] at v0 a0 a1 s0 s1
  rw [i_tn] at v1
  rw [show (0 : Int32).toInt = 0 from rfl] at v0 a0 s0
  rw [show (40 : Int32).toInt = 40 from rfl] at a1 s1
  have e64 : (64 : Int32).toInt = 64 := rfl
  have d : (v / 64).toInt = v.toInt / 64 := i_div v0 (by rw [e64]; omega)
  have m : (v / 64 * 64).toInt = v.toInt / 64 * 64 := by rw [i_mul (by rw [d, e64]; omega) (by rw [d, e64]; omega), d, e64]
  have q : (v - v / 64 * 64).toInt = v.toInt % 64 := by rw [i_sub (by rw [m]; omega) (by rw [m]; omega), m]; omega
  have q2 : (v - v / 64 * 64 + a).toInt = v.toInt % 64 + a.toInt := by rw [i_add (by rw [q]; omega) (by rw [q]; omega), q]
  have e1 : (v / 64 + 1).toInt = v.toInt / 64 + 1 := by rw [i_inc (by omega), d]
  have e2 : ((v / 64 + 1) * 64).toInt = (v.toInt / 64 + 1) * 64 := by rw [i_mul (by rw [e1, e64]; omega) (by rw [e1, e64]; omega), e1, e64]
  have e3 : ((v / 64 + 1) * 64 + a).toInt = (v.toInt / 64 + 1) * 64 + a.toInt := by rw [i_add (by rw [e2]; omega) (by rw [e2]; omega), e2]
  have e4 : (v + a).toInt = v.toInt + a.toInt := i_add (by omega) (by omega)
  unfold f_X7_withItem f_X7_withItem_J15
  by_cases h : S < v - v / 64 * 64 + a
  · rw [if_pos h, if_pos rfl]
    rw [i_lt, q2] at h
    refine ⟨_, rfl, by rw [i_le, e3, show (0 : Int32).toInt = 0 from rfl]; omega, by rw [i_tn, i_tn, e3]; omega, ?_⟩
    unfold wit
    have c : S.toNatClampNeg < v.toNatClampNeg % 64 + a.toNatClampNeg := by rw [i_tn, i_tn, i_tn]; omega
    rw [if_pos c, i_tn, i_tn, i_tn, e3]; omega
  · rw [if_neg h, if_neg one_ne]
    rw [i_lt, q2] at h
    refine ⟨_, rfl, by rw [i_le, e4, show (0 : Int32).toInt = 0 from rfl]; omega, by rw [i_tn, i_tn, e4]; omega, ?_⟩
    unfold wit
    have c : ¬ S.toNatClampNeg < v.toNatClampNeg % 64 + a.toNatClampNeg := by rw [i_tn, i_tn, i_tn]; omega
    rw [if_neg c, i_tn, i_tn, i_tn, e4]; omega
theorem two_le {n : Nat} (hn : n ≤ 8) : 2 ^ n ≤ 256 := Nat.pow_le_pow_right (by decide) hn
theorem bit_lt {n s i : Nat} (hs : s < 2 ^ n) (hi : s.testBit i = true) : i < n := by
  by_cases z : i < n
  · exact z
  · rw [Nat.testBit_lt_two_pow (Nat.lt_of_lt_of_le hs (Nat.pow_le_pow_right (by decide) (by omega)))] at hi
    exact absurd hi (by decide)
/-- one set of items, the class -/
theorem wb_in {S icnt : Int32} {itm c : Nat → Int32} {n s : Nat} (n2 : Int32) (hn : n ≤ 8) (hi : icnt = Int32.ofNat n) (s1 : 1 ≤ s) (s2 : s < 2 ^ n) (hS : 0 ≤ S) (hS2 : S ≤ 40) (ha : ∀ i : Nat, i < n → 1 ≤ itm i ∧ itm i ≤ 20) (hc : ∀ t : Nat, t < s → 0 ≤ c t ∧ (c t).toNatClampNeg ≤ 104 * t + 40) :
    ∃ m, loop (fun z : Int32 × Int32 => f_X7_fewestBoxes_L41 S n2 (Int32.ofNat s) icnt itm c z.1 z.2) fu (2147483647, 0) = some m ∧ 0 ≤ m ∧ m.toNatClampNeg ≤ 104 * s + 40 ∧ (∃ i, i < n ∧ s.testBit i = true ∧ m.toNatClampNeg = wit S.toNatClampNeg (c (dif s (2 ^ i))).toNatClampNeg (itm i).toNatClampNeg) ∧ ∀ i, i < n → s.testBit i = true → m.toNatClampNeg ≤ wit S.toNatClampNeg (c (dif s (2 ^ i))).toNatClampNeg (itm i).toNatClampNeg := by
  have s256 : s < 256 := Nat.lt_of_lt_of_le s2 (two_le hn)
  refine lp_one (f := fun z : Int32 × Int32 => f_X7_fewestBoxes_L41 S n2 (Int32.ofNat s) icnt itm c z.1 z.2)
    (fun z => ∃ j : Nat, z.2 = Int32.ofNat j ∧ j ≤ n ∧ 0 ≤ z.1 ∧ (∀ i, i < j → s.testBit i = true → z.1.toNatClampNeg ≤ wit S.toNatClampNeg (c (dif s (2 ^ i))).toNatClampNeg (itm i).toNatClampNeg) ∧ ((z.1 = 2147483647 ∧ ∀ i, i < j → s.testBit i = false) ∨ (z.1.toNatClampNeg ≤ 104 * s + 40 ∧ ∃ i, i < n ∧ s.testBit i = true ∧ z.1.toNatClampNeg = wit S.toNatClampNeg (c (dif s (2 ^ i))).toNatClampNeg (itm i).toNatClampNeg))) _ (fun z => msr z.2 icnt) ?_ fu _ ⟨0, rfl, by omega, by dsimp only; decide, fun i hi => absurd hi (by omega), Or.inl ⟨rfl, fun i hi => absurd hi (by omega)⟩⟩ (msr_fu (by dsimp only; decide) (by rw [hi, show (90000 : Int32) = Int32.ofNat 90000 from rfl, on_lt (by omega) (by omega)]; omega))
  rintro ⟨b, k⟩ ⟨j, g1, g2, g0, g3, g4⟩
  dsimp only at g1 g2 g0 g3 g4 ⊢
  subst g1
  unfold f_X7_fewestBoxes_L41 f_X7_fewestBoxes_L41_J96
  rw [hi]
  by_cases hj : n ≤ j
  · right
    rw [if_pos ((on_le (by omega) (by omega)).mpr hj)]
    have : j = n := by omega
    subst this
    refine ⟨b, rfl, g0, ?_⟩
    rcases g4 with ⟨-, g4⟩ | g4
    · exfalso
      obtain ⟨i, hb⟩ := Nat.exists_testBit_of_ne_zero (show s ≠ 0 by omega)
      have := g4 i (bit_lt s2 hb)
      rw [hb] at this
      exact absurd this (by decide)
    · exact ⟨g4.1, g4.2, g3⟩
  · left
    have hj' : j < n := by omega
    have mm : msr (Int32.ofNat (j + 1)) (Int32.ofNat n) < msr (Int32.ofNat j) (Int32.ofNat n) := by
      rw [← on_inc]; exact msr_lt ((on_lt (by omega) (by omega)).mpr hj')
    rw [if_neg (fun z => hj ((on_le (by omega) (by omega)).mp z)), on_inc]
    cases hb : s.testBit j with
    | false =>
      rw [if_pos ((of_bit s s256 j (by omega)).mpr hb)]
      refine ⟨_, rfl, ⟨j + 1, rfl, by omega, g0, fun i i0 i1 => ?_, ?_⟩, mm⟩
      · by_cases e : i = j
        · rw [e, hb] at i1; exact absurd i1 (by decide)
        · exact g3 i (by omega) i1
      · rcases g4 with ⟨g4, g5⟩ | g4
        · refine Or.inl ⟨g4, fun i hi => ?_⟩
          by_cases e : i = j
          · rw [e]; exact hb
          · exact g5 i (by omega)
        · exact Or.inr g4
    | true =>
      have nb : ¬ (Int32.ofNat s &&& ((1 : Int32) <<< (Int32.ofNat j &&& 31))) = 0 := fun z => by
        rw [of_bit s s256 j (by omega), hb] at z
        exact absurd z (by decide)
      have dl : dif s (2 ^ j) < s := dif_lt (by omega) (p2_sub hb) (p2_ne j)
      obtain ⟨c1, c2⟩ := hc _ dl
      obtain ⟨a1, a2⟩ := ha j hj'
      obtain ⟨r, r1, r2, r3, r4⟩ := n_wit c1 (by omega) (Int32.le_trans (by decide) a1) (Int32.le_trans a2 (by decide)) hS hS2
      rw [if_neg nb, of_shl j (by omega), of_dif, gd_256 (on_k (by omega)).2.2 ((on_lt (k := dif s (2 ^ j)) (m := 256) (by omega) (by omega)).mpr (by omega)), gd_8 (on_k (by omega)).2.2 ((on_lt (k := j) (m := 8) (by omega) (by omega)).mpr (by omega)), (on_k (k := dif s (2 ^ j)) (by omega)).1, (on_k (k := j) (by omega)).1, r1]
      simp only [bnd1, Option.bind_some]
      refine ⟨_, rfl, ⟨j + 1, rfl, by omega, ?_⟩, mm⟩
      dsimp only
      by_cases l : r < b
      · rw [if_pos l]
        have l2 : r.toNatClampNeg ≤ b.toNatClampNeg := (tn_le r2 g0).mp (Int32.le_of_lt l)
        refine ⟨r2, fun i i0 i1 => ?_, Or.inr ⟨by omega, j, hj', hb, r4⟩⟩
        by_cases e : i = j
        · rw [e, r4]; exact Nat.le_refl _
        · exact Nat.le_trans l2 (g3 i (by omega) i1)
      · rw [if_neg l]
        have l2 : b.toNatClampNeg ≤ r.toNatClampNeg := (tn_le g0 r2).mp (Int32.not_lt.mp l)
        refine ⟨g0, fun i i0 i1 => ?_, ?_⟩
        · by_cases e : i = j
          · rw [e, ← r4]; exact l2
          · exact g3 i (by omega) i1
        · rcases g4 with ⟨g4, -⟩ | g4
          · exfalso
            rw [g4, show ((2147483647 : Int32).toNatClampNeg) = 2147483647 from rfl] at l2
            omega
          · exact Or.inr g4
/-- the class's table of sets -/
def TB (S n : Nat) (a : Nat → Nat) (c : Nat → Int32) (N : Nat) : Prop :=
  ∀ t : Nat, t < N → 0 ≤ c t ∧ (c t).toNatClampNeg ≤ 104 * t + 40 ∧ (1 ≤ t → (∃ i, i < n ∧ t.testBit i = true ∧ (c t).toNatClampNeg = wit S (c (dif t (2 ^ i))).toNatClampNeg (a i)) ∧ ∀ i, i < n → t.testBit i = true → (c t).toNatClampNeg ≤ wit S (c (dif t (2 ^ i))).toNatClampNeg (a i))
theorem upd_eq {f : Nat → Int32} {k : Nat} {v : Int32} : upd f k v k = v := by unfold upd; exact if_pos rfl
theorem upd_of {f : Nat → Int32} {k j : Nat} {v : Int32} (h : j ≠ k) : upd f k v j = f j := by unfold upd; exact if_neg h
theorem TB_up {S n s : Nat} {a : Nat → Nat} {c : Nat → Int32} {m : Int32} (s1 : 1 ≤ s) (hs : s < 256) (h : TB S n a c s) (m0 : 0 ≤ m) (m1 : m.toNatClampNeg ≤ 104 * s + 40)
    (m2 : ∃ i, i < n ∧ s.testBit i = true ∧ m.toNatClampNeg = wit S (c (dif s (2 ^ i))).toNatClampNeg (a i)) (m3 : ∀ i, i < n → s.testBit i = true → m.toNatClampNeg ≤ wit S (c (dif s (2 ^ i))).toNatClampNeg (a i)) : TB S n a (upd c s m) (s + 1) := by
  have dn : ∀ t i, t < 256 → t.testBit i = true → dif t (2 ^ i) < t := fun t i ht hi => dif_lt (by omega) (p2_sub hi) (p2_ne i)
  intro t ht
  by_cases e : t = s
  · subst e
    rw [upd_eq]
    refine ⟨m0, m1, fun _ => ⟨?_, fun i i0 i1 => ?_⟩⟩
    · obtain ⟨i, i0, i1, i2⟩ := m2
      refine ⟨i, i0, i1, ?_⟩
      have := dn t i hs i1
      rw [upd_of (by omega)]; exact i2
    · have := dn t i hs i1
      rw [upd_of (by omega)]; exact m3 i i0 i1
  · obtain ⟨h1, h2, h3⟩ := h t (by omega)
    rw [upd_of e]
    refine ⟨h1, h2, fun t1 => ?_⟩
    obtain ⟨⟨i, i0, i1, i2⟩, h4⟩ := h3 t1
    refine ⟨⟨i, i0, i1, ?_⟩, fun j j0 j1 => ?_⟩
    · have := dn t i (by omega) i1
      rw [upd_of (by omega)]; exact i2
    · have := dn t j (by omega) j1
      rw [upd_of (by omega)]; exact h4 j j0 j1
theorem wb_out {S icnt : Int32} {itm c : Nat → Int32} {n : Nat} (hn : n ≤ 8) (hi : icnt = Int32.ofNat n) (hS : 0 ≤ S) (hS2 : S ≤ 40) (ha : ∀ i : Nat, i < n → 1 ≤ itm i ∧ itm i ≤ 20) :
    ∃ c', f_X7_fewestBoxes S icnt itm c = some (c' (2 ^ n - 1) / 64, c') ∧ c' 0 = S ∧ TB S.toNatClampNeg n (fun i => (itm i).toNatClampNeg) c' (2 ^ n) := by
  have t2 := two_le hn
  have tp := Nat.two_pow_pos n
  have sh : (1 : Int32) <<< (icnt &&& 31) = Int32.ofNat (2 ^ n) := by rw [hi, of_shl n (by omega)]
  have hSn : S.toNatClampNeg ≤ 40 := by
    rw [i_le] at hS hS2
    rw [show (40 : Int32).toInt = 40 from rfl] at hS2
    rw [i_tn]; omega
  obtain ⟨c', h1, h2, h3⟩ := lp_one (f := fun z : Int32 × (Nat → Int32) => f_X7_fewestBoxes_L19 S (Int32.ofNat (2 ^ n)) icnt itm z.1 z.2)
    (fun z => ∃ s : Nat, z.1 = Int32.ofNat s ∧ 1 ≤ s ∧ s ≤ 2 ^ n ∧ z.2 0 = S ∧ TB S.toNatClampNeg n (fun i => (itm i).toNatClampNeg) z.2 s) (fun e => e 0 = S ∧ TB S.toNatClampNeg n (fun i => (itm i).toNatClampNeg) e (2 ^ n)) (fun z => msr z.1 256) (by
    rintro ⟨k, b⟩ ⟨s, g1, g2, g3, g4, g5⟩
    dsimp only at g1 g2 g3 g4 g5 ⊢
    subst g1
    unfold f_X7_fewestBoxes_L19
    by_cases hs : 2 ^ n ≤ s
    · right
      rw [if_pos ((on_le (by omega) (by omega)).mpr hs)]
      have : s = 2 ^ n := by omega
      rw [← this]
      exact ⟨b, rfl, g4, g5⟩
    · left
      have s256 : s < 256 := by omega
      obtain ⟨m, m1, m2, m3, m4, m5⟩ := wb_in (c := b) (Int32.ofNat (2 ^ n)) hn hi g2 (by omega) hS hS2 ha (fun t ht => ⟨(g5 t ht).1, (g5 t ht).2.1⟩)
      have n256 : ¬ (256 : Int32) ≤ Int32.ofNat s := fun z => by
        have := (on_le (k := 256) (m := s) (by omega) (by omega)).mp z
        omega
      rw [if_neg (fun z => hs ((on_le (by omega) (by omega)).mp z)), if_neg n256, m1]
      simp only [bnd1, Option.bind_some]
      rw [gd_256 (on_k (by omega)).2.2 ((on_lt (k := s) (m := 256) (by omega) (by omega)).mpr s256), on_inc, (on_k (by omega)).1]
      refine ⟨_, rfl, ⟨s + 1, rfl, by omega, by omega, ?_, TB_up g2 s256 g5 m2 m3 m4 m5⟩, ?_⟩
      · dsimp only; rw [upd_of (by omega)]; exact g4
      · dsimp only
        rw [← on_inc]; exact msr_lt ((on_lt (k := s) (m := 256) (by omega) (by omega)).mpr s256)) fu (1, upd c 0 S) ⟨1, rfl, by omega, by omega, by dsimp only; exact upd_eq, fun t ht => by
      have : t = 0 := by omega
      subst this
      dsimp only
      rw [upd_eq]
      exact ⟨hS, by omega, fun z => absurd z (by omega)⟩⟩ (msr_fu (by dsimp only; decide) (by decide))
  refine ⟨c', ?_, h2, h3⟩
  have e1 : Int32.ofNat (2 ^ n) - 1 = Int32.ofNat (2 ^ n - 1) := by
    have := on_inc (k := 2 ^ n - 1)
    rw [show 2 ^ n - 1 + 1 = 2 ^ n by omega] at this
    rw [← this, Int32.add_sub_cancel]
  unfold f_X7_fewestBoxes
  rw [gd_256 (by decide) (by decide), sh]
  show bnd1 (loop _ fu (1, upd c 0 S)) _ = _
  rw [h1]
  simp only [bnd1, Option.bind_some]
  rw [e1, gd_256 (on_k (by omega)).2.2 ((on_lt (k := 2 ^ n - 1) (m := 256) (by omega) (by omega)).mpr (by omega)), (on_k (by omega)).1]
/-- what a set of items is in all, the model -/
theorem n_sizeOf {icnt : Int32} {itm w : Nat → Int32} {n x : Nat} (hn : n ≤ 8) (hi : w 2423 = Int32.ofNat n) (hx : x < 256) (ha : ∀ i : Nat, i < n → 1 ≤ itm i ∧ itm i ≤ 20) (hw : ∀ i : Nat, i < n → w (2424 + i) = itm i) : ∃ r, f_Y8_sizeOf (Int32.ofNat x) w = some r ∧ 0 ≤ r ∧ r.toNatClampNeg = sz (fun i => (itm i).toNatClampNeg) n x := by
  have hi' : w (2423 : Int32).toNatClampNeg = Int32.ofNat n := hi
  obtain ⟨r, h1, h2⟩ := lp_one (f := fun z : Int32 × Int32 => f_Y8_sizeOf_L4 (Int32.ofNat x) w z.1 z.2)
    (fun z => ∃ j : Nat, z.2 = Int32.ofNat j ∧ j ≤ n ∧ 0 ≤ z.1 ∧ z.1.toNatClampNeg ≤ 20 * j ∧ z.1.toNatClampNeg = sz (fun i => (itm i).toNatClampNeg) j x) (fun r => 0 ≤ r ∧ r.toNatClampNeg = sz (fun i => (itm i).toNatClampNeg) n x) (fun z => msr z.2 8) (by
    rintro ⟨b, k⟩ ⟨j, g1, g2, g3, g4, g5⟩
    dsimp only at g1 g2 g3 g4 g5 ⊢
    subst g1
    unfold f_Y8_sizeOf_L4 f_Y8_sizeOf_L4_J40
    rw [gd_2450 (by decide) (by decide), hi']
    by_cases hj : n ≤ j
    · right
      rw [if_pos ((on_le (by omega) (by omega)).mpr hj)]
      have : j = n := by omega
      subst this
      exact ⟨b, rfl, g3, g5⟩
    · left
      rw [if_neg (fun z => hj ((on_le (by omega) (by omega)).mp z)), on_inc]
      have mm : msr (Int32.ofNat (j + 1)) 8 < msr (Int32.ofNat j) 8 := by
        rw [← on_inc]; exact msr_lt ((on_lt (k := j) (m := 8) (by omega) (by omega)).mpr (by omega))
      have e1 : 2424 + Int32.ofNat j = Int32.ofNat (2424 + j) := by
        apply Int32.toBitVec_inj.mp
        simp [BitVec.ofNat_add]
      obtain ⟨a1, a2⟩ := ha j (by omega)
      have wj : w (2424 + Int32.ofNat j).toNatClampNeg = itm j := by rw [e1, (on_k (by omega)).1]; exact hw j (by omega)
      have gi : 0 ≤ 2424 + Int32.ofNat j ∧ 2424 + Int32.ofNat j < 2450 := by
        rw [e1]; exact ⟨(on_k (by omega)).2.2, (on_lt (k := 2424 + j) (m := 2450) (by omega) (by omega)).mpr (by omega)⟩
      cases hb : x.testBit j with
      | false =>
        have nb : ¬ ((Int32.ofNat x >>> (Int32.ofNat j &&& 31)) &&& 1) = 1 := fun z => by
          rw [of_shr x hx j (by omega), hb] at z
          exact absurd z (by decide)
        rw [if_neg nb]
        refine ⟨_, rfl, ⟨j + 1, rfl, by omega, ?_, ?_, ?_⟩, mm⟩ <;> dsimp only
        · rw [Int32.add_zero]; exact g3
        · rw [Int32.add_zero]; omega
        · rw [Int32.add_zero, g5]
          show sz _ j x = sz _ j x + (if x.testBit j = true then _ else 0)
          rw [hb]; simp
      | true =>
        rw [if_pos ((of_shr x hx j (by omega)).mpr hb), gd_2450 gi.1 gi.2, wj]
        rw [i_le] at a1 a2 g3
        rw [show (1 : Int32).toInt = 1 from rfl] at a1
        rw [show (20 : Int32).toInt = 20 from rfl] at a2
        rw [show (0 : Int32).toInt = 0 from rfl] at g3
        rw [i_tn] at g4 g5
        have s : (b + itm j).toInt = b.toInt + (itm j).toInt := i_add (by omega) (by omega)
        refine ⟨_, rfl, ⟨j + 1, rfl, by omega, ?_, ?_, ?_⟩, mm⟩ <;> dsimp only
        · rw [i_le, s, show (0 : Int32).toInt = 0 from rfl]; omega
        · rw [i_tn, s]; omega
        · show _ = sz _ j x + (if x.testBit j = true then (itm j).toNatClampNeg else 0)
          rw [i_tn, s, ← g5, hb, if_pos rfl, i_tn]; omega) fu (0, 0) ⟨0, rfl, by omega, by dsimp only; decide, by dsimp only; decide, rfl⟩ (msr_fu (by dsimp only; decide) (by decide))
  exact ⟨r, by unfold f_Y8_sizeOf; rw [h1]; rfl, h2⟩
/-- the model's table of sets -/
def MB (S n s : Nat) (a : Nat → Nat) (b : Nat → Int32) (v : Int32) (x : Nat) : Prop :=
  0 ≤ v ∧ v.toNatClampNeg ≤ 1000000000 ∧ (∀ y, y ≠ 0 → Sb y s → x < y → sz a n y ≤ S → v.toNatClampNeg ≤ (b (dif s y)).toNatClampNeg + 1) ∧ (v.toNatClampNeg = 1000000000 ∨ ∃ y, y ≠ 0 ∧ Sb y s ∧ sz a n y ≤ S ∧ v.toNatClampNeg = (b (dif s y)).toNatClampNeg + 1)
theorem sb_le {x s : Nat} (h : Sb x s) : x ≤ s := by
  rw [← sb_and h]; exact Nat.and_le_right
theorem mb_in {S : Int32} {itm w b : Nat → Int32} {n s : Nat} (raised : Int32) (hn : n ≤ 8) (hi : w 2423 = Int32.ofNat n) (s1 : 1 ≤ s) (s2 : s < 256) (hS : 0 ≤ S) (ha : ∀ i : Nat, i < n → 1 ≤ itm i ∧ itm i ≤ 20) (hw : ∀ i : Nat, i < n → w (2424 + i) = itm i) (hb : ∀ t, t < s → 0 ≤ b t ∧ (b t).toNatClampNeg ≤ 1000000000) :
    ∃ b', loop (fun z : Int32 × (Nat → Int32) => f_Y8_boxes_L66 S (Int32.ofNat s) raised w z.1 z.2) fu (Int32.ofNat s, upd b s 1000000000) = some b' ∧ (∀ t, t ≠ s → b' t = b t) ∧ MB S.toNatClampNeg n s (fun i => (itm i).toNatClampNeg) b (b' s) 0 := by
  refine lp_one (f := fun z : Int32 × (Nat → Int32) => f_Y8_boxes_L66 S (Int32.ofNat s) raised w z.1 z.2)
    (fun z => ∃ x : Nat, z.1 = Int32.ofNat x ∧ Sb x s ∧ (∀ t, t ≠ s → z.2 t = b t) ∧ MB S.toNatClampNeg n s (fun i => (itm i).toNatClampNeg) b (z.2 s) x) _ (fun z => z.1.toNatClampNeg) ?_ fu _ ⟨s, rfl, fun k hk => hk, fun t ht => upd_of ht, ?_⟩ (by dsimp only; rw [(on_k (by omega)).1]; unfold fu; omega)
  · rintro ⟨k, c⟩ ⟨x, g1, g2, g3, g4⟩
    dsimp only at g1 g2 g3 g4 ⊢
    subst g1
    have xs := sb_le g2
    unfold f_Y8_boxes_L66
    by_cases hx : x = 0
    · right
      subst hx
      rw [if_pos (by decide)]
      exact ⟨c, rfl, g3, g4⟩
    · left
      have hx1 : ¬ Int32.ofNat x ≤ 0 := fun z => by
        have := (on_le (k := x) (m := 0) (by omega) (by omega)).mp z
        omega
      obtain ⟨r, r1, r2, r3⟩ := n_sizeOf (icnt := 0) (x := x) hn hi (by omega) ha hw
      have e2 : (Int32.ofNat x - 1) &&& Int32.ofNat s = Int32.ofNat ((x - 1) &&& s) := of_pred s x (by omega)
      have xl : (x - 1) &&& s ≤ x - 1 := Nat.and_le_left
      have gs : 0 ≤ Int32.ofNat s ∧ Int32.ofNat s < 256 := ⟨(on_k (by omega)).2.2, (on_lt (k := s) (m := 256) (by omega) (by omega)).mpr s2⟩
      have es : (Int32.ofNat s).toNatClampNeg = s := (on_k (by omega)).1
      have mm : (Int32.ofNat ((x - 1) &&& s)).toNatClampNeg < (Int32.ofNat x).toNatClampNeg := by
        rw [(on_k (by omega)).1, (on_k (by omega)).1]; omega
      obtain ⟨q1, q2, q3, q4⟩ := g4
      have nxt : ∀ y, Sb y s → (x - 1) &&& s < y → y = x ∨ x < y := fun y hy hl => by
        by_cases z : y < x
        · have := sub_next s x y g2 hy z
          omega
        · omega
      have key : ∀ t0 : Int32, 0 ≤ t0 → (sz (fun i => (itm i).toNatClampNeg) n x ≤ S.toNatClampNeg → t0.toNatClampNeg = (b (dif s x)).toNatClampNeg + 1) → (¬ sz (fun i => (itm i).toNatClampNeg) n x ≤ S.toNatClampNeg → t0 = 1000000000) → ∃ s', f_Y8_boxes_L66_J96 S (Int32.ofNat s) (Int32.ofNat x) t0 raised w c = some (.inl s') ∧ (∃ x' : Nat, s'.1 = Int32.ofNat x' ∧ Sb x' s ∧ (∀ t, t ≠ s → s'.2 t = b t) ∧ MB S.toNatClampNeg n s (fun i => (itm i).toNatClampNeg) b (s'.2 s) x') ∧ s'.1.toNatClampNeg < (Int32.ofNat x).toNatClampNeg := by
        intro t0 t1 t2 t3
        unfold f_Y8_boxes_L66_J96 f_Y8_boxes_L66_J125
        rw [gd_256 gs.1 gs.2, gd_256 gs.1 gs.2, gd_256 gs.1 gs.2, gd_256 gs.1 gs.2, es, e2]
        by_cases l : c s ≤ t0
        · rw [if_pos l]
          have l2 : (c s).toNatClampNeg ≤ t0.toNatClampNeg := (tn_le q1 t1).mp l
          refine ⟨_, rfl, ⟨_, rfl, and_sb _ _, fun t ht => ?_, ?_⟩, mm⟩ <;> dsimp only
          · rw [upd_of ht]; exact g3 t ht
          · rw [upd_eq]
            refine ⟨q1, q2, fun y y0 y1 y2 y3 => ?_, q4⟩
            rcases nxt y y1 y2 with e | e
            · subst e; rw [← t2 y3]; exact l2
            · exact q3 y y0 y1 e y3
        · rw [if_neg l]
          have l2 : t0.toNatClampNeg ≤ (c s).toNatClampNeg := (tn_le t1 q1).mp (Int32.le_of_lt (Int32.not_le.mp l))
          have fit : sz (fun i => (itm i).toNatClampNeg) n x ≤ S.toNatClampNeg := by
            by_cases z : sz (fun i => (itm i).toNatClampNeg) n x ≤ S.toNatClampNeg
            · exact z
            · exfalso
              rw [t3 z] at l
              exact l ((tn_le q1 (by decide)).mpr q2)
          refine ⟨_, rfl, ⟨_, rfl, and_sb _ _, fun t ht => ?_, ?_⟩, mm⟩ <;> dsimp only
          · rw [upd_of ht]; exact g3 t ht
          · rw [upd_eq]
            refine ⟨t1, by omega, fun y y0 y1 y2 y3 => ?_, Or.inr ⟨x, hx, g2, fit, t2 fit⟩⟩
            rcases nxt y y1 y2 with e | e
            · subst e; rw [← t2 y3]; exact Nat.le_refl _
            · exact Nat.le_trans l2 (q3 y y0 y1 e y3)
      rw [if_neg hx1, r1]
      simp only [bnd1, Option.bind_some]
      by_cases l : S < r
      · rw [if_pos l]
        refine key 1000000000 (by decide) (fun z => ?_) (fun _ => rfl)
        have := (tn_le r2 hS).mpr (by rw [r3]; exact z)
        exact absurd this (Int32.not_le.mpr l)
      · rw [if_neg l]
        have dl : dif s x < s := dif_lt (by omega) g2 hx
        obtain ⟨b0, b1⟩ := hb _ dl
        rw [of_dif, gd_256 (on_k (by omega)).2.2 ((on_lt (k := dif s x) (m := 256) (by omega) (by omega)).mpr (by omega)), (on_k (by omega)).1, g3 _ (by omega)]
        rw [i_le, show (0 : Int32).toInt = 0 from rfl] at b0
        rw [i_tn] at b1
        have e3 : (b (dif s x) + 1).toInt = (b (dif s x)).toInt + 1 := i_inc (by omega)
        refine key _ (by rw [i_le, e3, show (0 : Int32).toInt = 0 from rfl]; omega) (fun _ => by rw [i_tn, i_tn, e3]; omega) (fun z => absurd ?_ z)
        rw [← r3]
        exact (tn_le r2 hS).mp (Int32.not_lt.mp l)
  · dsimp only
    rw [upd_eq]
    refine ⟨by decide, by decide, fun y y0 y1 y2 _ => ?_, Or.inl rfl⟩
    have := sb_le y1
    omega
def MT (S n : Nat) (a : Nat → Nat) (b : Nat → Int32) (N : Nat) : Prop := b 0 = 0 ∧ ∀ t, t < N → 0 ≤ b t ∧ (b t).toNatClampNeg ≤ 1000000000 ∧ (1 ≤ t → MB S n t a b (b t) 0)
theorem MB_same {S n s : Nat} {a : Nat → Nat} {b b' : Nat → Int32} {v : Int32} (hs : s < 256) (h : ∀ t, t < s → b' t = b t) (q : MB S n s a b v 0) : MB S n s a b' v 0 := by
  obtain ⟨q1, q2, q3, q4⟩ := q
  refine ⟨q1, q2, fun y y0 y1 y2 y3 => ?_, ?_⟩
  · rw [h _ (dif_lt (by omega) y1 y0)]; exact q3 y y0 y1 y2 y3
  · rcases q4 with q4 | ⟨y, y0, y1, y2, y3⟩
    · exact Or.inl q4
    · exact Or.inr ⟨y, y0, y1, y2, by rw [h _ (dif_lt (by omega) y1 y0)]; exact y3⟩
theorem mb_out {S : Int32} {itm w b : Nat → Int32} {n : Nat} (raised : Int32) (hn : n ≤ 8) (hi : w 2423 = Int32.ofNat n) (hS : 0 ≤ S) (ha : ∀ i : Nat, i < n → 1 ≤ itm i ∧ itm i ≤ 20) (hw : ∀ i : Nat, i < n → w (2424 + i) = itm i) :
    ∃ b', loop (fun z : Int32 × (Nat → Int32) => f_Y8_boxes_L42 S raised w z.1 z.2) fu (1, upd b 0 0) = some b' ∧ MT S.toNatClampNeg n (fun i => (itm i).toNatClampNeg) b' (2 ^ n) := by
  have t2 := two_le hn
  have tp := Nat.two_pow_pos n
  have hi' : w (2423 : Int32).toNatClampNeg = Int32.ofNat n := hi
  refine lp_one (f := fun z : Int32 × (Nat → Int32) => f_Y8_boxes_L42 S raised w z.1 z.2)
    (fun z => ∃ s : Nat, z.1 = Int32.ofNat s ∧ 1 ≤ s ∧ s ≤ 2 ^ n ∧ MT S.toNatClampNeg n (fun i => (itm i).toNatClampNeg) z.2 s) _ (fun z => msr z.1 256) ?_ fu _ ⟨1, rfl, by omega, by omega, by dsimp only; exact upd_eq, fun t ht => ?_⟩ (msr_fu (by dsimp only; decide) (by decide))
  · rintro ⟨k, c⟩ ⟨s, g1, g2, g3, g4⟩
    dsimp only at g1 g2 g3 g4 ⊢
    subst g1
    unfold f_Y8_boxes_L42
    rw [gd_2450 (by decide) (by decide), hi', of_shl n (by omega)]
    by_cases hs : 2 ^ n ≤ s
    · right
      rw [if_pos ((on_le (by omega) (by omega)).mpr hs)]
      have : s = 2 ^ n := by omega
      rw [← this]
      exact ⟨c, rfl, g4⟩
    · left
      have s256 : s < 256 := by omega
      obtain ⟨b', h1, h2, h3⟩ := mb_in (S := S) (itm := itm) (w := w) (b := c) raised hn hi g2 s256 hS ha hw (fun t ht => ⟨(g4.2 t ht).1, (g4.2 t ht).2.1⟩)
      rw [if_neg (fun z => hs ((on_le (by omega) (by omega)).mp z)), gd_256 (on_k (by omega)).2.2 ((on_lt (k := s) (m := 256) (by omega) (by omega)).mpr s256), (on_k (by omega)).1, h1]
      simp only [bnd1, Option.bind_some]
      rw [on_inc]
      refine ⟨_, rfl, ⟨s + 1, rfl, by omega, by omega, ?_, fun t ht => ?_⟩, ?_⟩
      · dsimp only; rw [h2 0 (by omega)]; exact g4.1
      · dsimp only
        by_cases e : t = s
        · subst e
          exact ⟨h3.1, h3.2.1, fun _ => MB_same s256 (fun u hu => h2 u (by omega)) h3⟩
        · obtain ⟨y1, y2, y3⟩ := g4.2 t (by omega)
          rw [h2 t e]
          exact ⟨y1, y2, fun z => MB_same (by omega) (fun u hu => h2 u (by omega)) (y3 z)⟩
      · dsimp only
        rw [← on_inc]; exact msr_lt ((on_lt (k := s) (m := 256) (by omega) (by omega)).mpr s256)
  · have : t = 0 := by omega
    subst this
    dsimp only
    rw [upd_eq]
    exact ⟨by decide, by decide, fun z => absurd z (by omega)⟩
/-- both tables' last entries agree -/
theorem wm_full {S : Int32} {itm c b : Nat → Int32} {n : Nat} (hn : n ≤ 8) (hS : 0 ≤ S) (hS2 : S ≤ 40) (ha : ∀ i : Nat, i < n → 1 ≤ itm i ∧ itm i ≤ S) (hc0 : c 0 = S) (hc : TB S.toNatClampNeg n (fun i => (itm i).toNatClampNeg) c (2 ^ n)) (hb : MT S.toNatClampNeg n (fun i => (itm i).toNatClampNeg) b (2 ^ n)) : c (2 ^ n - 1) / 64 = b (2 ^ n - 1) := by
  have t2 := two_le hn
  have tp := Nat.two_pow_pos n
  have hSn : S.toNatClampNeg ≤ 40 := (tn_le hS (by decide)).mp hS2
  have haN : ∀ i, i < n → 1 ≤ (itm i).toNatClampNeg ∧ (itm i).toNatClampNeg ≤ S.toNatClampNeg := fun i hi => by
    obtain ⟨a1, a2⟩ := ha i hi
    have z : 0 ≤ itm i := Int32.le_trans (by decide) a1
    exact ⟨(tn_le (by decide) z).mp a1, (tn_le z hS).mp a2⟩
  have bs : ∀ s, s < 2 ^ n → (b s).toNatClampNeg ≤ s := by
    intro s
    induction s using Nat.strongRecOn with
    | ind s ih =>
      intro hs
      by_cases s0 : s = 0
      · rw [s0, hb.1]; decide
      · obtain ⟨-, -, h3⟩ := hb.2 s hs
        obtain ⟨-, -, q3, -⟩ := h3 (by omega)
        obtain ⟨i, hi⟩ := Nat.exists_testBit_of_ne_zero s0
        have il := bit_lt hs hi
        have dl := dif_lt (show s < 4294967296 by omega) (p2_sub hi) (p2_ne i)
        have := q3 (2 ^ i) (p2_ne i) (p2_sub hi) (Nat.two_pow_pos i) (by rw [sz_p2 il]; exact (haN i il).2)
        have := ih _ dl (by omega)
        omega
  obtain ⟨f, f1, f2, -⟩ := bx_comb (a := fun i => (itm i).toNatClampNeg) (pk := fun s => (c s).toNatClampNeg) (bx := fun s => (b s).toNatClampNeg) (n := n) (S := S.toNatClampNeg) (by omega) hSn haN (by rw [hc0]) (by rw [hb.1]; rfl)
    (fun s s1 s2 => ((hc s s2).2.2 s1).1) (fun s s1 s2 => ((hc s s2).2.2 s1).2) (fun s s1 s2 => by
      obtain ⟨-, -, h3⟩ := hb.2 s s2
      obtain ⟨-, -, -, q4⟩ := h3 s1
      have := bs s s2
      rcases q4 with q4 | q4
      · omega
      · exact q4) (fun s s1 s2 x x0 x1 x2 => by
      obtain ⟨-, -, h3⟩ := hb.2 s s2
      obtain ⟨-, -, q3, -⟩ := h3 s1
      exact q3 x x0 x1 (by omega) x2) (2 ^ n - 1) (by omega)
  have c0 := (hc (2 ^ n - 1) (by omega)).1
  have b0 := (hb.2 (2 ^ n - 1) (by omega)).1
  rw [i_tn, i_tn] at f2
  rw [i_le, show (0 : Int32).toInt = 0 from rfl] at c0 b0
  rw [i_eq, i_div c0 (by decide), show (64 : Int32).toInt = 64 from rfl]
  omega
