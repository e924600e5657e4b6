/-! ===== the least way: the five forms, and what every even net of ways costs ===== -/
/-- odd, front, rear, joined, apart -/
abbrev W5 : Type := Int × Int × Int × Int × Int
def crs (g : Int) (s : W5) : W5 := (s.1 + 2 * g, min s.2.1 s.2.2.2.1 + 2 * g, min s.2.2.1 s.2.2.2.1 + 2 * g, s.2.2.2.1 + 4 * g, s.2.2.2.2 + 4 * g)
def evn (s : W5) : Int := min (min s.2.1 s.2.2.1) (min s.2.2.2.1 s.2.2.2.2)
def wlk (L d sh wd : Int) (s : W5) : W5 :=
  let o := min (evn s + L) (s.1 + 2 * L)
  let j := min (evn s + 2 * L) (s.1 + L)
  if d = 0 then (min o s.1, min 1000000 s.2.1, min 1000000 s.2.2.1, min j s.2.2.2.1, min 1000000 s.2.2.2.2)
  else
    let x := min (2 * d) (min (2 * (L - sh)) (2 * (L - wd)))
    (min o (s.1 + x), s.2.1 + 2 * d, s.2.2.1 + 2 * (L - sh), min j (s.2.2.2.1 + x), min (s.2.2.2.2 + x) (min (s.2.1 + min (2 * (L - sh)) (2 * (L - wd))) (s.2.2.1 + min (2 * d) (2 * (L - wd)))))
/-- what is seen of a lane: P its places, d the deepest, sh the least, wd the widest stretch between neighbours -/
def LK (L : Nat) (P : Nat → Prop) (d sh wd : Int) : Prop :=
  (d = 0 ∧ ∀ p, ¬ P p) ∨ (1 ≤ d ∧ (∀ p, P p → 1 ≤ p ∧ p < L ∧ sh ≤ p ∧ (p : Int) ≤ d) ∧ (∃ p, P p ∧ (p : Int) = d) ∧ (∃ p, P p ∧ (p : Int) = sh) ∧ 0 ≤ wd ∧ wd ≤ L ∧
    (∀ x y, P x → P y → x < y → (∀ q, x < q → q < y → ¬ P q) → (y : Int) - x ≤ wd) ∧ ∃ x y : Nat, x ≤ y ∧ y ≤ L ∧ (y : Int) - x = wd ∧ ∀ p, P p → p ≤ x ∨ y ≤ p)
def usum (f : Nat → Int) : Nat → Int
  | 0 => 0
  | k + 1 => usum f k + f k
theorem us_ge {f : Nat → Int} {c : Int} : ∀ k : Nat, (∀ p, p < k → c ≤ f p) → c * k ≤ usum f k := by
  intro k
  induction k with
  | zero => intro _; simp [usum]
  | succ k ih =>
    intro h
    have := ih (fun p hp => h p (by omega))
    have := h k (by omega)
    have e : c * ((k + 1 : Nat) : Int) = c * k + c := by rw [Int.natCast_add, Int.mul_add]; simp
    unfold usum
    omega
theorem us_nn {f : Nat → Int} (k : Nat) (h : ∀ p, p < k → 0 ≤ f p) : 0 ≤ usum f k := by
  have := us_ge (c := 0) k h
  omega
/-- a sum in three stretches -/
theorem us_3 {f : Nat → Int} {x y : Nat} : ∀ k : Nat, x ≤ y → y ≤ k → (∀ p, p < k → 0 ≤ f p) → (∀ p, p < k → p < x ∨ y ≤ p → 2 ≤ f p) → 2 * (x : Int) + 2 * ((k : Int) - y) ≤ usum f k := by
  intro k
  induction k with
  | zero => intro a b _ _; unfold usum; omega
  | succ k ih =>
    intro a b h0 h
    have g0 := h0 k (by omega)
    unfold usum
    by_cases e : y ≤ k
    · have := ih a e (fun p hp => h0 p (by omega)) (fun p hp hh => h p (by omega) hh)
      have := h k (by omega) (Or.inr e)
      omega
    · have ey : y = k + 1 := by omega
      by_cases ex : x ≤ k
      · have u : ∀ m : Nat, x ≤ m → m ≤ k → 2 * (x : Int) ≤ usum f m := by
          intro m
          induction m with
          | zero => intro h1 _; have : x = 0 := by omega
                    subst this; unfold usum; omega
          | succ m im =>
            intro h1 h2
            unfold usum
            by_cases e2 : x ≤ m
            · have := im e2 (by omega)
              have := h0 m (by omega)
              omega
            · have e3 : x = m + 1 := by omega
              have v : 2 * ((m : Nat) : Int) ≤ usum f m := us_ge m (fun p hp => h p (by omega) (Or.inl (by omega)))
              have := h m (by omega) (Or.inl (by omega))
              omega
        have := u k ex (Nat.le_refl _)
        omega
      · have e3 : x = k + 1 := by omega
        have v : 2 * ((k : Nat) : Int) ≤ usum f k := us_ge k (fun p hp => h p (by omega) (Or.inl (by omega)))
        have := h k (by omega) (Or.inl (by omega))
        omega
/-- a lane that is cut somewhere: the least and the greatest place where nothing goes -/
theorem zero_ends {f : Nat → Int} : ∀ k : Nat, (∃ p, p < k ∧ f p = 0) → ∃ x y, x ≤ y ∧ y < k ∧ f x = 0 ∧ f y = 0 ∧ ∀ p, p < k → p < x ∨ y < p → f p ≠ 0 := by
  intro k
  induction k with
  | zero => rintro ⟨p, h, _⟩; omega
  | succ k ih =>
    rintro ⟨p, h1, h2⟩
    by_cases e : f k = 0
    · by_cases e2 : ∃ p, p < k ∧ f p = 0
      · obtain ⟨x, y, a, b, c, d, h⟩ := ih e2
        refine ⟨x, k, by omega, by omega, c, e, fun q q1 q2 => h q ?_ ?_⟩ <;> omega
      · refine ⟨k, k, Nat.le_refl _, by omega, e, e, fun q q1 q2 z => ?_⟩
        exact e2 ⟨q, by omega, z⟩
    · have : p < k := by
        by_cases z : p = k
        · subst z; exact absurd h2 e
        · omega
      obtain ⟨x, y, a, b, c, d, h⟩ := ih ⟨p, this, h2⟩
      refine ⟨x, y, a, by omega, c, d, fun q q1 q2 z => ?_⟩
      by_cases eq : q = k
      · subst eq; exact e z
      · exact h q (by omega) q2 z
/-- neighbours on both sides of a cut -/
theorem straddle {P : Nat → Prop} {x y : Nat} (hxy : x < y) (h : ∀ p, P p → p ≤ x ∨ y ≤ p) (hl : ∃ p, P p ∧ p ≤ x) (hr : ∃ p, P p ∧ y ≤ p) : ∃ a b, P a ∧ P b ∧ a ≤ x ∧ y ≤ b ∧ ∀ q, a < q → q < b → ¬ P q := by
  have left : ∀ m : Nat, (∃ p, P p ∧ p ≤ m) → ∃ a, P a ∧ a ≤ m ∧ ∀ q, a < q → q ≤ m → ¬ P q := by
    intro m
    induction m with
    | zero => rintro ⟨p, a, b⟩; exact ⟨p, a, b, fun q q1 q2 => by omega⟩
    | succ m ih =>
      rintro ⟨p, a, b⟩
      by_cases e : P (m + 1)
      · exact ⟨m + 1, e, Nat.le_refl _, fun q q1 q2 => by omega⟩
      · have : p ≤ m := by
          by_cases z : p = m + 1
          · subst z; exact absurd a e
          · omega
        obtain ⟨a', a1, a2, a3⟩ := ih ⟨p, a, this⟩
        refine ⟨a', a1, by omega, fun q q1 q2 z => ?_⟩
        by_cases eq : q = m + 1
        · subst eq; exact e z
        · exact a3 q q1 (by omega) z
  obtain ⟨a, a1, a2, a3⟩ := left x hl
  obtain ⟨p, p1, p2⟩ := hr
  have right : ∀ k : Nat, ∀ p, P p → y ≤ p → p ≤ y + k → ∃ b, P b ∧ y ≤ b ∧ ∀ q, y ≤ q → q < b → ¬ P q := by
    intro k
    induction k with
    | zero => intro p p1 p2 p3; exact ⟨p, p1, p2, fun q q1 q2 => by omega⟩
    | succ k ih =>
      intro p p1 p2 p3
      by_cases e : ∃ q, P q ∧ y ≤ q ∧ q ≤ y + k
      · obtain ⟨q, q1, q2, q3⟩ := e
        exact ih q q1 q2 q3
      · exact ⟨p, p1, p2, fun q q1 q2 z => e ⟨q, z, q1, by omega⟩⟩
  obtain ⟨b, b1, b2, b3⟩ := right (p - y) p p1 p2 (by omega)
  refine ⟨a, b, a1, b1, a2, b2, fun q q1 q2 z => ?_⟩
  rcases h q z with t | t
  · exact a3 q q1 t z
  · exact b3 q t q2 z
/-- a cut lane: what its ways cost at least -/
theorem lane_cut {L : Nat} {P : Nat → Prop} {d sh wd : Int} {f : Nat → Int} (hK : LK L P d sh wd) (h0 : ∀ p, p < L → 0 ≤ f p) (hev : ∀ p, p < L → f p % 2 = 0) (hz : ∃ p, p < L ∧ f p = 0)
    (hc : ∀ p q, p ≤ q → q < L → f p = 0 → f q = 0 → ∀ x, P x → x ≤ p ∨ q + 1 ≤ x) (hd : d ≠ 0) :
    min (2 * d) (min (2 * ((L : Int) - sh)) (2 * ((L : Int) - wd))) ≤ usum f L ∧ (f (L - 1) = 0 → 2 * d ≤ usum f L) ∧ (f 0 = 0 → 2 * ((L : Int) - sh) ≤ usum f L) ∧ (2 * d ≤ usum f L ∨ min (2 * ((L : Int) - sh)) (2 * ((L : Int) - wd)) ≤ usum f L) ∧ (2 * ((L : Int) - sh) ≤ usum f L ∨ min (2 * d) (2 * ((L : Int) - wd)) ≤ usum f L) := by
  obtain ⟨x, y, a, b, c, e, h⟩ := zero_ends L hz
  have hL : 0 < L := by omega
  have hs := us_3 (x := x) (y := y + 1) L (by omega) (by omega) h0 (fun p p1 p2 => by
    have := h p p1 (by omega)
    have := h0 p p1
    have := hev p p1
    omega)
  have hcov := hc x y a b c e
  rcases hK with ⟨k, -⟩ | ⟨d1, k1, ⟨pd, k2, k3⟩, ⟨ps, k4, k5⟩, w0, w1, k6, -⟩
  · exact absurd k hd
  have kd := k1 pd k2
  have ks := k1 ps k4
  have A : (∀ p, P p → p ≤ x) → 2 * d ≤ usum f L := fun z => by have := z pd k2; omega
  have B : (∀ p, P p → y + 1 ≤ p) → 2 * ((L : Int) - sh) ≤ usum f L := fun z => by have := z ps k4; omega
  have C : (∃ p, P p ∧ p ≤ x) → (∃ p, P p ∧ y + 1 ≤ p) → 2 * ((L : Int) - wd) ≤ usum f L := fun z1 z2 => by
    obtain ⟨a', b', a1, b1, a2, b2, a3⟩ := straddle (by omega) hcov z1 z2
    have := k6 a' b' a1 b1 (by omega) a3
    omega
  have nl : ¬ (∃ p, P p ∧ p ≤ x) → ∀ p, P p → y + 1 ≤ p := fun z p hp => by
    rcases hcov p hp with t | t
    · exact absurd ⟨p, hp, t⟩ z
    · exact t
  have nr : ¬ (∃ p, P p ∧ y + 1 ≤ p) → ∀ p, P p → p ≤ x := fun z p hp => by
    rcases hcov p hp with t | t
    · exact t
    · exact absurd ⟨p, hp, t⟩ z
  have D : 2 * d ≤ usum f L ∨ min (2 * ((L : Int) - sh)) (2 * ((L : Int) - wd)) ≤ usum f L := by
    by_cases z1 : ∃ p, P p ∧ y + 1 ≤ p
    · by_cases z2 : ∃ p, P p ∧ p ≤ x
      · have := C z2 z1; omega
      · have := B (nl z2); omega
    · exact Or.inl (A (nr z1))
  have E : 2 * ((L : Int) - sh) ≤ usum f L ∨ min (2 * d) (2 * ((L : Int) - wd)) ≤ usum f L := by
    by_cases z1 : ∃ p, P p ∧ p ≤ x
    · by_cases z2 : ∃ p, P p ∧ y + 1 ≤ p
      · have := C z1 z2; omega
      · have := A (nr z2); omega
    · exact Or.inl (B (nl z1))
  refine ⟨by omega, fun z => A fun p hp => ?_, fun z => B fun p hp => ?_, D, E⟩
  · rcases hcov p hp with t | t
    · exact t
    · have : y = L - 1 := by
        by_cases q : y = L - 1
        · exact q
        · exact absurd z (h (L - 1) (by omega) (Or.inr (by omega)))
      have := (k1 p hp).2.1
      omega
  · rcases hcov p hp with t | t
    · have : x = 0 := by
        by_cases q : x = 0
        · exact q
        · exact absurd z (h 0 (by omega) (Or.inl (by omega)))
      have := (k1 p hp).1
      omega
    · exact t
def QW (s : W5) (c ai bi : Int) (J : Prop) : Prop := (ai % 2 = 1 → s.1 ≤ c) ∧ (ai % 2 = 0 → (bi = 0 → s.2.1 ≤ c) ∧ (ai = 0 → s.2.2.1 ≤ c) ∧ (0 < ai → 0 < bi → J → s.2.2.2.1 ≤ c) ∧ evn s ≤ c)
def PW (s : W5) (c a1 : Int) (J F B : Prop) : Prop := (a1 % 2 = 1 → s.1 ≤ c) ∧ (a1 % 2 = 0 → (J → s.2.2.2.1 ≤ c) ∧ (B → min s.2.1 s.2.2.2.1 ≤ c) ∧ (F → min s.2.2.1 s.2.2.2.1 ≤ c) ∧ evn s ≤ c)
theorem lane_step {L : Nat} {P : Nat → Prop} {d sh wd : Int} {f : Nat → Int} {s : W5} {c ai bi a1 : Int} {J J' : Prop} (hK : LK L P d sh wd) (hL : 0 < L) (h0 : ∀ p, p < L → 0 ≤ f p) (hpar : ∀ p, p < L → (f p + f 0) % 2 = 0) (hp : (f 0 + ai + a1) % 2 = 0)
    (hb : (ai + bi) % 2 = 0) (hn : 0 ≤ ai ∧ 0 ≤ bi) (hab : 0 < ai + bi) (hJ : J' → (∃ p, p < L ∧ f p = 0) → 0 < ai ∧ 0 < bi ∧ J)
    (hc : ∀ p q, p ≤ q → q < L → f p = 0 → f q = 0 → ∀ x, P x → x ≤ p ∨ q + 1 ≤ x) (h : QW s c ai bi J) : PW (wlk L d sh wd s) (c + usum f L) a1 J' (ai = 0 ∧ f 0 = 0) (bi = 0 ∧ f (L - 1) = 0) := by
  obtain ⟨o, fr, r, j, m⟩ := s
  obtain ⟨q1, q2⟩ := h
  have U0 := us_nn L h0
  have g0 := h0 0 hL
  have gL := h0 (L - 1) (by omega)
  unfold PW
  have low : (wlk L d sh wd (o, fr, r, j, m)).1 ≤ evn (o, fr, r, j, m) + L ∧ (wlk L d sh wd (o, fr, r, j, m)).1 ≤ o + 2 * L ∧ (wlk L d sh wd (o, fr, r, j, m)).2.2.2.1 ≤ evn (o, fr, r, j, m) + 2 * L ∧ (wlk L d sh wd (o, fr, r, j, m)).2.2.2.1 ≤ o + L := by
    unfold wlk
    by_cases hd : d = 0
    · simp only [if_pos hd]; omega
    · simp only [if_neg hd]; omega
  obtain ⟨w1, w2, w3, w4⟩ := low
  dsimp only at q1 q2
  by_cases ho : f 0 % 2 = 1
  · -- the lane is walked oddly
    have hU : (1 : Int) * L ≤ usum f L := us_ge L (fun p p1 => by have := hpar p p1; have := h0 p p1; omega)
    generalize wlk L d sh wd (o, fr, r, j, m) = s' at *
    refine ⟨fun z => ?_, fun z => ?_⟩
    · have := (q2 (by omega)).2.2.2
      omega
    · have := q1 (by omega)
      unfold evn
      exact ⟨fun _ => by omega, fun _ => by omega, fun _ => by omega, by omega⟩
  · have hev : ∀ p, p < L → f p % 2 = 0 := fun p p1 => by have := hpar p p1; omega
    by_cases hz : ∃ p, p < L ∧ f p = 0
    rotate_left
    · have hU : (2 : Int) * L ≤ usum f L := us_ge L (fun p p1 => by
        have := hev p p1
        have := h0 p p1
        have : f p ≠ 0 := fun z => hz ⟨p, p1, z⟩
        omega)
      generalize wlk L d sh wd (o, fr, r, j, m) = s' at *
      refine ⟨fun z => ?_, fun z => ?_⟩
      · have := q1 (by omega)
        omega
      · have := (q2 (by omega)).2.2.2
        unfold evn
        exact ⟨fun _ => by omega, fun _ => by omega, fun _ => by omega, by unfold evn at *; omega⟩
    · clear w1 w2 w3 w4
      by_cases hd : d = 0
      · unfold wlk
        simp only [if_pos hd]
        refine ⟨fun z => ?_, fun z => ?_⟩
        · have := q1 (by omega)
          omega
        · obtain ⟨r1, r2, r3, r4⟩ := q2 (by omega)
          refine ⟨fun y => ?_, fun y => ?_, fun y => ?_, ?_⟩
          · obtain ⟨y1, y2, y3⟩ := hJ y hz
            have := r3 y1 y2 y3
            omega
          · have := r1 y.1
            omega
          · have := r2 y.1
            omega
          · unfold evn at r4 ⊢
            dsimp only at r4 ⊢
            omega
      · obtain ⟨k1, k2, k3, k4, k5⟩ := lane_cut hK h0 hev hz hc hd
        unfold wlk
        simp only [if_neg hd]
        refine ⟨fun z => ?_, fun z => ?_⟩
        · have := q1 (by omega)
          omega
        · obtain ⟨r1, r2, r3, r4⟩ := q2 (by omega)
          refine ⟨fun y => ?_, fun y => ?_, fun y => ?_, ?_⟩
          · obtain ⟨y1, y2, y3⟩ := hJ y hz
            have := r3 y1 y2 y3
            omega
          · have := r1 y.1
            have := k2 y.2
            omega
          · have := r2 y.1
            have := k3 y.2
            omega
          · unfold evn at r4 ⊢
            dsimp only at r4 ⊢
            have r5 : fr ≤ c ∨ r ≤ c ∨ j ≤ c ∨ m ≤ c := by omega
            clear q1 q2 r1 r2 r3 r4
            rcases r5 with z1 | z1 | z1 | z1
            · rcases k4 with z2 | z2 <;> omega
            · rcases k5 with z2 | z2 <;> omega
            · omega
            · omega
theorem cross_step {g : Int} {s : W5} {c a1 b1 : Int} {J F B : Prop} (hg : 0 ≤ g) (h : PW s c a1 J F B) (hF : ¬ J → a1 = 0 → F) (hB : ¬ J → b1 = 0 → B) (hn : 0 ≤ a1 ∧ 0 ≤ b1) (hab : 0 < a1 + b1) (hb : (a1 + b1) % 2 = 0) : QW (crs g s) (c + g * (a1 + b1)) a1 b1 J := by
  obtain ⟨o, f, r, j, m⟩ := s
  obtain ⟨p1, p2⟩ := h
  have m2 : 2 * g ≤ g * (a1 + b1) := by
    have := Int.mul_le_mul_of_nonneg_left (show 2 ≤ a1 + b1 by omega) hg
    omega
  have m4 : 4 ≤ a1 + b1 → 4 * g ≤ g * (a1 + b1) := fun z => by
    have := Int.mul_le_mul_of_nonneg_left z hg
    omega
  generalize g * (a1 + b1) = G at *
  unfold QW crs
  dsimp only at p1 p2 ⊢
  refine ⟨fun z => ?_, fun z => ?_⟩
  · have := p1 z
    omega
  · obtain ⟨r1, r2, r3, r4⟩ := p2 z
    have tF : b1 = 0 → min f j ≤ c := fun y => by
      by_cases hj : J
      · have := r1 hj; omega
      · exact r2 (hB hj y)
    have tR : a1 = 0 → min r j ≤ c := fun y => by
      by_cases hj : J
      · have := r1 hj; omega
      · exact r3 (hF hj y)
    refine ⟨fun y => ?_, fun y => ?_, fun y1 y2 y3 => ?_, ?_⟩
    · have := tF y; omega
    · have := tR y; omega
    · have := r1 y3
      have := m4 (by omega)
      omega
    · unfold evn at r4 ⊢
      dsimp only at r4 ⊢
      by_cases ya : a1 = 0
      · have := tR ya; omega
      · by_cases yb : b1 = 0
        · have := tF yb; omega
        · have := m4 (by omega)
          omega
/-- the forms ahead of lane i -/
def wst (L g : Int) (lk : Nat → Int × Int × Int) : Nat → W5
  | 0 => (1000000, 0, 1000000, 1000000, 1000000)
  | i + 1 => crs g (wlk L (lk i).1 (lk i).2.1 (lk i).2.2 (wst L g lk i))
/-- what a net costs ahead of lane i -/
def cB (L : Nat) (g : Int) (u : Nat → Nat → Int) (a b : Nat → Int) : Nat → Int
  | 0 => 0
  | i + 1 => cB L g u a b i + usum (u i) L + g * (a (i + 1) + b (i + 1))
def NET (L N : Nat) (P : Nat → Nat → Prop) (u : Nat → Nat → Int) (a b : Nat → Int) (JJ : Nat → Prop) : Prop :=
  (∀ i p, i < N → p < L → 0 ≤ u i p) ∧ (∀ i, 0 ≤ a i ∧ 0 ≤ b i) ∧ a 0 = 2 ∧ b 0 = 0 ∧ a N = 0 ∧ b N = 0 ∧
  (∀ i p, i < N → p < L → (u i p + u i 0) % 2 = 0) ∧ (∀ i, i < N → (u i 0 + a i + a (i + 1)) % 2 = 0) ∧ (∀ i, i < N → (u i (L - 1) + b i + b (i + 1)) % 2 = 0) ∧
  (∀ i, i < N → JJ (i + 1) → (∃ p, p < L ∧ u i p = 0) → 0 < a i ∧ 0 < b i ∧ JJ i) ∧
  (∀ i, i < N → 0 < a i + b i) ∧
  (∀ i, i + 1 < N → ¬ JJ (i + 1) → b (i + 1) = 0 → b i = 0 ∧ u i (L - 1) = 0) ∧
  (∀ i, i + 1 < N → ¬ JJ (i + 1) → a (i + 1) = 0 → a i = 0 ∧ u i 0 = 0) ∧
  (∀ i, i + 1 = N → ¬ JJ (i + 1) → (a i = 0 ∧ u i 0 = 0) ∨ (b i = 0 ∧ u i (L - 1) = 0)) ∧
  ∀ i p q, i < N → p ≤ q → q < L → u i p = 0 → u i q = 0 → ∀ x, P i x → x ≤ p ∨ q + 1 ≤ x
theorem net_le {L N : Nat} {g : Int} {P : Nat → Nat → Prop} {u : Nat → Nat → Int} {a b : Nat → Int} {JJ : Nat → Prop} {lk : Nat → Int × Int × Int} (hL : 0 < L) (hg : 0 ≤ g) (hlk : ∀ i, i < N → LK L (P i) (lk i).1 (lk i).2.1 (lk i).2.2) (h : NET L N P u a b JJ) :
    (∀ i, i < N → QW (wst L g lk i) (cB L g u a b i) (a i) (b i) (JJ i) ∧ (a i + b i) % 2 = 0) ∧ ∀ i, i + 1 = N → ∀ s, s = wlk L (lk i).1 (lk i).2.1 (lk i).2.2 (wst L g lk i) → min s.2.1 (min s.2.2.1 s.2.2.2.1) ≤ cB L g u a b N := by
  obtain ⟨h1, h2, h3, h4, h5, h6, h7, h8, h9, h10, h11, h12, h13, h14, h15⟩ := h
  have st : ∀ i, i < N → QW (wst L g lk i) (cB L g u a b i) (a i) (b i) (JJ i) → (a i + b i) % 2 = 0 → PW (wlk L (lk i).1 (lk i).2.1 (lk i).2.2 (wst L g lk i)) (cB L g u a b i + usum (u i) L) (a (i + 1)) (JJ (i + 1)) (a i = 0 ∧ u i 0 = 0) (b i = 0 ∧ u i (L - 1) = 0) := fun i hi q e =>
    lane_step (hlk i hi) hL (fun p hp => h1 i p hi hp) (fun p hp => h7 i p hi hp) (h8 i hi) e (h2 i) (h11 i hi) (h10 i hi) (fun p q a1 a2 a3 a4 => h15 i p q hi a1 a2 a3 a4) q
  have main : ∀ i, i < N → QW (wst L g lk i) (cB L g u a b i) (a i) (b i) (JJ i) ∧ (a i + b i) % 2 = 0 := by
    intro i
    induction i with
    | zero =>
      intro _
      rw [h3, h4]
      unfold QW wst cB evn
      dsimp only
      exact ⟨⟨fun z => by omega, fun _ => ⟨fun _ => by omega, fun z => by omega, fun _ z => by omega, by omega⟩⟩, by omega⟩
    | succ i ih =>
      intro hi
      obtain ⟨q, e⟩ := ih (by omega)
      have p := st i (by omega) q e
      have e1 : (a (i + 1) + b (i + 1)) % 2 = 0 := by
        have := h8 i (by omega)
        have := h9 i (by omega)
        have := h7 i (L - 1) (by omega) (by omega)
        omega
      exact ⟨cross_step hg p (h13 i hi) (h12 i hi) (h2 (i + 1)) (h11 (i + 1) hi) e1, e1⟩
  refine ⟨main, fun i hi s hs => ?_⟩
  obtain ⟨q, e⟩ := main i (by omega)
  have p := (st i (by omega) q e).2 (by rw [hi, h5]; rfl)
  rw [← hs] at p
  obtain ⟨p1, p2, p3, p4⟩ := p
  have ec : cB L g u a b N = cB L g u a b i + usum (u i) L := by
    rw [← hi]
    show cB L g u a b i + usum (u i) L + g * (a (i + 1) + b (i + 1)) = _
    rw [hi, h5, h6]
    simp
  rw [ec]
  by_cases hj : JJ (i + 1)
  · have := p1 hj; omega
  · rcases h14 i hi hj with z | z
    · have := p3 z; omega
    · have := p2 z; omega
/-! ===== the net of a tour ===== -/
abbrev VX : Type := Nat × Nat
def dst (L : Nat) (g : Int) (v w : VX) : Int :=
  if v.1 = w.1 then (if w.2 ≤ v.2 then (v.2 : Int) - w.2 else (w.2 : Int) - v.2)
  else g * (if w.1 ≤ v.1 then (v.1 : Int) - w.1 else (w.1 : Int) - v.1) + min ((v.2 : Int) + w.2) (2 * (L : Int) - v.2 - w.2)
def dlt (v w : VX) : Int := if v = w then 1 else 0
def CLO (L : Nat) (u : Nat → Nat → Int) (a b : Nat → Int) (X : VX → Prop) : Prop := (∀ i p, 0 < u i p → (X (i, p) ↔ X (i, p + 1))) ∧ (∀ i, 0 < a (i + 1) → (X (i, 0) ↔ X (i + 1, 0))) ∧ ∀ i, 0 < b (i + 1) → (X (i, L) ↔ X (i + 1, L))
def NP (N L : Nat) (g : Int) (v v' : VX) (u : Nat → Nat → Int) (a b : Nat → Int) (c : Int) : Prop :=
  (∀ i p, 0 ≤ u i p) ∧ (∀ i, 0 ≤ a i ∧ 0 ≤ b i) ∧ (∀ i p, 0 < u i p → i < N ∧ p < L) ∧ (∀ i, 0 < a i ∨ 0 < b i → 1 ≤ i ∧ i < N) ∧ cB L g u a b N = c ∧
  (∀ i p, p + 1 < L → (u i p + u i (p + 1) + dlt v (i, p + 1) + dlt v' (i, p + 1)) % 2 = 0) ∧
  (∀ i, (u i 0 + a i + a (i + 1) + dlt v (i, 0) + dlt v' (i, 0)) % 2 = 0) ∧
  (∀ i, (u i (L - 1) + b i + b (i + 1) + dlt v (i, L) + dlt v' (i, L)) % 2 = 0) ∧
  ∀ X, CLO L u a b X → (X v ↔ X v') ∧ (∀ i p, 0 < u i p → (X (i, p) ↔ X v)) ∧ (∀ i, 0 < a (i + 1) → (X (i, 0) ↔ X v)) ∧ ∀ i, 0 < b (i + 1) → (X (i, L) ↔ X v)
theorem usum_add {f h : Nat → Int} : ∀ k : Nat, usum (fun p => f p + h p) k = usum f k + usum h k := by
  intro k
  induction k with
  | zero => rfl
  | succ k ih => unfold usum; rw [ih]; omega
theorem usum_0 : ∀ k : Nat, usum (fun _ => 0) k = 0 := by
  intro k
  induction k with
  | zero => rfl
  | succ k ih => unfold usum; rw [ih]; rfl
theorem usum_1 {q : Nat} : ∀ k : Nat, usum (fun p => if p = q then 1 else 0) k = if q < k then 1 else 0 := by
  intro k
  induction k with
  | zero => rfl
  | succ k ih =>
    unfold usum
    rw [ih]
    by_cases e : k = q
    · rw [if_neg (by omega), if_pos e, if_pos (by omega)]; rfl
    · rw [if_neg e]
      by_cases e2 : q < k
      · rw [if_pos e2, if_pos (by omega)]; rfl
      · rw [if_neg e2, if_neg (by omega)]; rfl
theorem cB_add {L : Nat} {g : Int} {u u' : Nat → Nat → Int} {a a' b b' : Nat → Int} : ∀ n : Nat, cB L g (fun i p => u i p + u' i p) (fun i => a i + a' i) (fun i => b i + b' i) n = cB L g u a b n + cB L g u' a' b' n := by
  intro n
  induction n with
  | zero => rfl
  | succ n ih =>
    unfold cB
    rw [ih, usum_add]
    have : g * (a (n + 1) + a' (n + 1) + (b (n + 1) + b' (n + 1))) = g * (a (n + 1) + b (n + 1)) + g * (a' (n + 1) + b' (n + 1)) := by rw [← Int.mul_add]; congr 1; omega
    rw [this]
    omega
theorem cB_0 {L : Nat} {g : Int} : ∀ n : Nat, cB L g (fun _ _ => 0) (fun _ => 0) (fun _ => 0) n = 0 := by
  intro n
  induction n with
  | zero => rfl
  | succ n ih => unfold cB; rw [ih, usum_0]; simp
theorem no0 : ¬ (0 : Int) < 0 := by decide
theorem no00 : ¬ ((0 : Int) < 0 ∨ (0 : Int) < 0) := by decide
theorem NP_refl {N L : Nat} {g : Int} (v : VX) : NP N L g v v (fun _ _ => 0) (fun _ => 0) (fun _ => 0) 0 := by
  refine ⟨fun _ _ => Int.le_refl _, fun _ => ⟨Int.le_refl _, Int.le_refl _⟩, fun _ _ h => absurd h no0, fun _ h => absurd h no00, cB_0 _, fun i p _ => ?_, fun i => ?_, fun i => ?_, fun X _ => ⟨Iff.rfl, fun _ _ h => absurd h no0, fun _ h => absurd h no0, fun _ h => absurd h no0⟩⟩ <;> dsimp only <;> omega
theorem NP_symm {N L : Nat} {g c : Int} {v v' : VX} {u : Nat → Nat → Int} {a b : Nat → Int} (h : NP N L g v v' u a b c) : NP N L g v' v u a b c := by
  obtain ⟨h1, h2, h3, h4, h5, h6, h7, h8, h9⟩ := h
  refine ⟨h1, h2, h3, h4, h5, fun i p hp => by have := h6 i p hp; omega, fun i => by have := h7 i; omega, fun i => by have := h8 i; omega, fun X hX => ?_⟩
  obtain ⟨x1, x2, x3, x4⟩ := h9 X hX
  exact ⟨x1.symm, fun i p hp => (x2 i p hp).trans x1, fun i hp => (x3 i hp).trans x1, fun i hp => (x4 i hp).trans x1⟩
theorem CLO_left {L : Nat} {u u' : Nat → Nat → Int} {a a' b b' : Nat → Int} {X : VX → Prop} (h1 : ∀ i p, 0 ≤ u' i p) (h2 : ∀ i, 0 ≤ a' i ∧ 0 ≤ b' i) (h : CLO L (fun i p => u i p + u' i p) (fun i => a i + a' i) (fun i => b i + b' i) X) : CLO L u a b X := by
  obtain ⟨x, y, z⟩ := h
  exact ⟨fun i p hp => x i p (by dsimp only; have := h1 i p; omega), fun i hp => y i (by dsimp only; have := h2 (i + 1); omega), fun i hp => z i (by dsimp only; have := h2 (i + 1); omega)⟩
theorem CLO_right {L : Nat} {u u' : Nat → Nat → Int} {a a' b b' : Nat → Int} {X : VX → Prop} (h1 : ∀ i p, 0 ≤ u i p) (h2 : ∀ i, 0 ≤ a i ∧ 0 ≤ b i) (h : CLO L (fun i p => u i p + u' i p) (fun i => a i + a' i) (fun i => b i + b' i) X) : CLO L u' a' b' X := by
  obtain ⟨x, y, z⟩ := h
  exact ⟨fun i p hp => x i p (by dsimp only; have := h1 i p; omega), fun i hp => y i (by dsimp only; have := h2 (i + 1); omega), fun i hp => z i (by dsimp only; have := h2 (i + 1); omega)⟩
theorem NP_trans {N L : Nat} {g c c' : Int} {v v' v'' : VX} {u u' : Nat → Nat → Int} {a a' b b' : Nat → Int} (h : NP N L g v v' u a b c) (h' : NP N L g v' v'' u' a' b' c') : NP N L g v v'' (fun i p => u i p + u' i p) (fun i => a i + a' i) (fun i => b i + b' i) (c + c') := by
  obtain ⟨h1, h2, h3, h4, h5, h6, h7, h8, h9⟩ := h
  obtain ⟨k1, k2, k3, k4, k5, k6, k7, k8, k9⟩ := h'
  refine ⟨fun i p => by dsimp only; have := h1 i p; have := k1 i p; omega, fun i => by dsimp only; have := h2 i; have := k2 i; omega, fun i p hp => ?_, fun i hp => ?_, by rw [cB_add, h5, k5], fun i p hp => by dsimp only; have := h6 i p hp; have := k6 i p hp; omega, fun i => by dsimp only; have := h7 i; have := k7 i; omega, fun i => by dsimp only; have := h8 i; have := k8 i; omega, fun X hX => ?_⟩
  · dsimp only at hp
    have := h1 i p
    have := k1 i p
    by_cases e : 0 < u i p
    · exact h3 i p e
    · exact k3 i p (by omega)
  · dsimp only at hp
    have := h2 i
    have := k2 i
    by_cases e : 0 < a i ∨ 0 < b i
    · exact h4 i e
    · exact k4 i (by omega)
  · obtain ⟨x1, x2, x3, x4⟩ := h9 X (CLO_left k1 k2 hX)
    obtain ⟨y1, y2, y3, y4⟩ := k9 X (CLO_right h1 h2 hX)
    refine ⟨x1.trans y1, fun i p hp => ?_, fun i hp => ?_, fun i hp => ?_⟩ <;> dsimp only at hp
    · by_cases e : 0 < u i p
      · exact x2 i p e
      · exact (y2 i p (by have := h1 i p; omega)).trans x1.symm
    · by_cases e : 0 < a (i + 1)
      · exact x3 i e
      · exact (y3 i (by have := h2 (i + 1); omega)).trans x1.symm
    · by_cases e : 0 < b (i + 1)
      · exact x4 i e
      · exact (y4 i (by have := h2 (i + 1); omega)).trans x1.symm
theorem cB_u {L i p : Nat} {g : Int} (hp : p < L) : ∀ n : Nat, cB L g (fun j q => if j = i ∧ q = p then 1 else 0) (fun _ => 0) (fun _ => 0) n = if i < n then 1 else 0 := by
  intro n
  induction n with
  | zero => rfl
  | succ n ih =>
    unfold cB
    rw [ih]
    by_cases e : n = i
    · have : (fun q => if n = i ∧ q = p then (1 : Int) else 0) = fun q => if q = p then 1 else 0 := by funext q; simp [e]
      rw [this, usum_1, if_pos hp, if_neg (by omega), if_pos (by omega)]
      simp
    · have : (fun q => if n = i ∧ q = p then (1 : Int) else 0) = fun _ => 0 := by funext q; simp [e]
      rw [this, usum_0]
      by_cases e2 : i < n
      · rw [if_pos e2, if_pos (by omega)]; simp
      · rw [if_neg e2, if_neg (by omega)]; simp
theorem cB_a {L i : Nat} {g : Int} : ∀ n : Nat, cB L g (fun _ _ => 0) (fun j => if j = i + 1 then 1 else 0) (fun _ => 0) n = if i < n then g else 0 := by
  intro n
  induction n with
  | zero => rfl
  | succ n ih =>
    unfold cB
    rw [ih, usum_0]
    by_cases e : n = i
    · rw [if_pos (show n + 1 = i + 1 by omega), if_neg (by omega), if_pos (by omega)]; simp
    · rw [if_neg (show ¬ n + 1 = i + 1 by omega)]
      by_cases e2 : i < n
      · rw [if_pos e2, if_pos (by omega)]; simp
      · rw [if_neg e2, if_neg (by omega)]; simp
theorem cB_b {L i : Nat} {g : Int} : ∀ n : Nat, cB L g (fun _ _ => 0) (fun _ => 0) (fun j => if j = i + 1 then 1 else 0) n = if i < n then g else 0 := by
  intro n
  induction n with
  | zero => rfl
  | succ n ih =>
    unfold cB
    rw [ih, usum_0]
    by_cases e : n = i
    · rw [if_pos (show n + 1 = i + 1 by omega), if_neg (by omega), if_pos (by omega)]; simp
    · rw [if_neg (show ¬ n + 1 = i + 1 by omega)]
      by_cases e2 : i < n
      · rw [if_pos e2, if_pos (by omega)]; simp
      · rw [if_neg e2, if_neg (by omega)]; simp
theorem dlt_mk {i p j q : Nat} : dlt (i, p) (j, q) = if i = j ∧ p = q then 1 else 0 := by
  unfold dlt
  by_cases h : i = j ∧ p = q
  · rw [if_pos h, if_pos (by rw [h.1, h.2])]
  · rw [if_neg h, if_neg (fun z => h (by simpa using z))]
theorem ite01 {p : Prop} [Decidable p] : (0 : Int) ≤ (if p then 1 else 0) ∧ (0 < (if p then (1 : Int) else 0) → p) := by
  by_cases h : p
  · rw [if_pos h]; exact ⟨by omega, fun _ => h⟩
  · rw [if_neg h]; exact ⟨by omega, fun z => absurd z (by decide)⟩
theorem ite_eq01 {p q : Prop} [Decidable p] [Decidable q] (h : p ↔ q) : (if p then (1 : Int) else 0) = if q then 1 else 0 := by
  by_cases hp : p
  · rw [if_pos hp, if_pos (h.mp hp)]
  · rw [if_neg hp, if_neg (fun z => hp (h.mpr z))]
theorem NP_lane {N L i p : Nat} {g : Int} (hi : i < N) (hp : p < L) : NP N L g (i, p) (i, p + 1) (fun j q => if j = i ∧ q = p then 1 else 0) (fun _ => 0) (fun _ => 0) 1 := by
  refine ⟨fun _ _ => ite01.1, fun _ => ⟨Int.le_refl _, Int.le_refl _⟩, fun j q h => ?_, fun _ h => absurd h no00, by rw [cB_u hp, if_pos hi], fun j q hq => ?_, fun j => ?_, fun j => ?_, fun X hX => ⟨?_, fun j q h => ?_, fun _ h => absurd h no0, fun _ h => absurd h no0⟩⟩
  · obtain ⟨e1, e2⟩ := ite01.2 h
    rw [e1, e2]; exact ⟨hi, hp⟩
  · rw [dlt_mk, dlt_mk, ite_eq01 (p := i = j ∧ p = q + 1) (q := j = i ∧ q + 1 = p) (by omega), ite_eq01 (p := i = j ∧ p + 1 = q + 1) (q := j = i ∧ q = p) (by omega)]
    dsimp only
    omega
  · rw [dlt_mk, dlt_mk, ite_eq01 (p := i = j ∧ p = 0) (q := j = i ∧ 0 = p) (by omega), if_neg (show ¬ (i = j ∧ p + 1 = 0) by omega)]
    dsimp only
    omega
  · rw [dlt_mk, dlt_mk, ite_eq01 (p := i = j ∧ p + 1 = L) (q := j = i ∧ L - 1 = p) (by omega), if_neg (show ¬ (i = j ∧ p = L) by omega)]
    dsimp only
    omega
  · exact hX.1 i p (by dsimp only; rw [if_pos ⟨rfl, rfl⟩]; decide)
  · obtain ⟨e1, e2⟩ := ite01.2 h
    rw [e1, e2]
theorem NP_front {N L i : Nat} {g : Int} (hi : i + 1 < N) (hL : 0 < L) : NP N L g (i, 0) (i + 1, 0) (fun _ _ => 0) (fun j => if j = i + 1 then 1 else 0) (fun _ => 0) g := by
  refine ⟨fun _ _ => Int.le_refl _, fun _ => ⟨ite01.1, Int.le_refl _⟩, fun j q h => absurd h no0, fun j h => ?_, by rw [cB_a, if_pos (by omega)], fun j q hq => ?_, fun j => ?_, fun j => ?_, fun X hX => ⟨?_, fun _ _ h => absurd h no0, fun j h => ?_, fun _ h => absurd h no0⟩⟩
  · rcases h with h | h
    · have := ite01.2 h
      omega
    · exact absurd h no0
  · rw [dlt_mk, dlt_mk, if_neg (by omega), if_neg (by omega)]; rfl
  · rw [dlt_mk, dlt_mk, ite_eq01 (p := i = j ∧ 0 = 0) (q := j + 1 = i + 1) (by omega), ite_eq01 (p := i + 1 = j ∧ 0 = 0) (q := j = i + 1) (by omega)]
    dsimp only
    omega
  · rw [dlt_mk, dlt_mk, if_neg (by omega), if_neg (by omega)]; rfl
  · exact hX.2.1 i (by dsimp only; rw [if_pos rfl]; decide)
  · have := ite01.2 h
    rw [show j = i by omega]
theorem NP_back {N L i : Nat} {g : Int} (hi : i + 1 < N) (hL : 0 < L) : NP N L g (i, L) (i + 1, L) (fun _ _ => 0) (fun _ => 0) (fun j => if j = i + 1 then 1 else 0) g := by
  refine ⟨fun _ _ => Int.le_refl _, fun _ => ⟨Int.le_refl _, ite01.1⟩, fun j q h => absurd h no0, fun j h => ?_, by rw [cB_b, if_pos (by omega)], fun j q hq => ?_, fun j => ?_, fun j => ?_, fun X hX => ⟨?_, fun _ _ h => absurd h no0, fun _ h => absurd h no0, fun j h => ?_⟩⟩
  · rcases h with h | h
    · exact absurd h no0
    · have := ite01.2 h
      omega
  · rw [dlt_mk, dlt_mk, if_neg (by omega), if_neg (by omega)]; rfl
  · rw [dlt_mk, dlt_mk, if_neg (by omega), if_neg (by omega)]; rfl
  · rw [dlt_mk, dlt_mk, ite_eq01 (p := i = j ∧ L = L) (q := j + 1 = i + 1) (by omega), ite_eq01 (p := i + 1 = j ∧ L = L) (q := j = i + 1) (by omega)]
    dsimp only
    omega
  · exact hX.2.2 i (by dsimp only; rw [if_pos rfl]; decide)
  · have := ite01.2 h
    rw [show j = i by omega]
def NE (N L : Nat) (g : Int) (v v' : VX) (c : Int) : Prop := ∃ u a b, NP N L g v v' u a b c
theorem NE_lane {N L i p : Nat} {g : Int} (hi : i < N) : ∀ k : Nat, p + k ≤ L → NE N L g (i, p) (i, p + k) k := by
  intro k
  induction k with
  | zero => intro _; exact ⟨_, _, _, NP_refl _⟩
  | succ k ih =>
    intro hk
    obtain ⟨u, a, b, h⟩ := ih (by omega)
    have := NP_trans h (NP_lane (g := g) hi (show p + k < L by omega))
    exact ⟨_, _, _, this⟩
theorem NE_front {N L i : Nat} {g : Int} (hL : 0 < L) : ∀ k : Nat, i + k < N → NE N L g (i, 0) (i + k, 0) (g * k) := by
  intro k
  induction k with
  | zero => intro _; rw [show g * ((0 : Nat) : Int) = 0 by simp]; exact ⟨_, _, _, NP_refl _⟩
  | succ k ih =>
    intro hk
    obtain ⟨u, a, b, h⟩ := ih (by omega)
    have := NP_trans h (NP_front (g := g) (i := i + k) (by omega) hL)
    rw [show g * ((k + 1 : Nat) : Int) = g * k + g by rw [Int.natCast_add, Int.mul_add]; simp]
    exact ⟨_, _, _, this⟩
theorem NE_back {N L i : Nat} {g : Int} (hL : 0 < L) : ∀ k : Nat, i + k < N → NE N L g (i, L) (i + k, L) (g * k) := by
  intro k
  induction k with
  | zero => intro _; rw [show g * ((0 : Nat) : Int) = 0 by simp]; exact ⟨_, _, _, NP_refl _⟩
  | succ k ih =>
    intro hk
    obtain ⟨u, a, b, h⟩ := ih (by omega)
    have := NP_trans h (NP_back (g := g) (i := i + k) (by omega) hL)
    rw [show g * ((k + 1 : Nat) : Int) = g * k + g by rw [Int.natCast_add, Int.mul_add]; simp]
    exact ⟨_, _, _, this⟩
theorem NE_trans {N L : Nat} {g c c' : Int} {v v' v'' : VX} (h : NE N L g v v' c) (h' : NE N L g v' v'' c') : NE N L g v v'' (c + c') := by
  obtain ⟨u, a, b, h⟩ := h
  obtain ⟨u', a', b', h'⟩ := h'
  exact ⟨_, _, _, NP_trans h h'⟩
theorem NE_symm {N L : Nat} {g c : Int} {v v' : VX} (h : NE N L g v v' c) : NE N L g v' v c := by
  obtain ⟨u, a, b, h⟩ := h
  exact ⟨u, a, b, NP_symm h⟩
theorem dst_symm {L : Nat} {g : Int} {v w : VX} : dst L g v w = dst L g w v := by
  unfold dst
  by_cases h : v.1 = w.1
  · rw [if_pos h, if_pos h.symm]
    split <;> split <;> omega
  · rw [if_neg h, if_neg (show ¬ w.1 = v.1 from fun z => h z.symm)]
    have e1 : (if w.1 ≤ v.1 then (v.1 : Int) - w.1 else (w.1 : Int) - v.1) = if v.1 ≤ w.1 then (w.1 : Int) - v.1 else (v.1 : Int) - w.1 := by split <;> split <;> omega
    rw [e1]
    omega
theorem NE_leg {N L : Nat} {g : Int} (hL : 0 < L) {v w : VX} (hv : v.1 < N ∧ v.2 ≤ L) (hw : w.1 < N ∧ w.2 ≤ L) : NE N L g v w (dst L g v w) := by
  have main : ∀ v w : VX, v.1 ≤ w.1 → v.1 < N ∧ v.2 ≤ L → w.1 < N ∧ w.2 ≤ L → NE N L g v w (dst L g v w) := by
    rintro ⟨i, p⟩ ⟨j, q⟩ hij ⟨v1, v2⟩ ⟨w1, w2⟩
    dsimp only at hij v1 v2 w1 w2
    unfold dst
    dsimp only
    by_cases e : i = j
    · subst e
      rw [if_pos rfl]
      by_cases h : q ≤ p
      · rw [if_pos h]
        have := NE_lane (g := g) (p := q) v1 (p - q) (by omega : q + (p - q) ≤ L)
        rw [show q + (p - q) = p by omega, show ((p - q : Nat) : Int) = p - q by omega] at this
        exact NE_symm this
      · rw [if_neg h]
        have := NE_lane (g := g) (p := p) v1 (q - p) (by omega : p + (q - p) ≤ L)
        rw [show p + (q - p) = q by omega, show ((q - p : Nat) : Int) = q - p by omega] at this
        exact this
    · rw [if_neg e, if_neg (by omega)]
      have f1 := NE_lane (g := g) (L := L) (p := 0) v1 p (by omega)
      have f2 := NE_front (g := g) (N := N) (i := i) hL (j - i) (by omega)
      have f3 := NE_lane (g := g) (L := L) (p := 0) w1 q (by omega)
      have b1 := NE_lane (g := g) (p := p) v1 (L - p) (by omega : p + (L - p) ≤ L)
      have b2 := NE_back (g := g) (N := N) (i := i) hL (j - i) (by omega)
      have b3 := NE_lane (g := g) (p := q) w1 (L - q) (by omega : q + (L - q) ≤ L)
      rw [Nat.zero_add] at f1 f3
      rw [show i + (j - i) = j by omega, show ((j - i : Nat) : Int) = (j : Int) - i by omega] at f2 b2
      rw [show p + (L - p) = L by omega] at b1
      rw [show q + (L - q) = L by omega] at b3
      have F := NE_trans (NE_trans (NE_symm f1) f2) f3
      have B := NE_trans (NE_trans b1 b2) (NE_symm b3)
      by_cases h : (p : Int) + q ≤ 2 * L - p - q
      · rw [show g * ((j : Int) - i) + min ((p : Int) + q) (2 * L - p - q) = p + g * ((j : Int) - i) + q by omega]
        exact F
      · rw [show g * ((j : Int) - i) + min ((p : Int) + q) (2 * L - p - q) = ((L - p : Nat) : Int) + g * ((j : Int) - i) + ((L - q : Nat) : Int) by omega]
        exact B
  by_cases h : v.1 ≤ w.1
  · exact main v w h hv hw
  · rw [dst_symm]
    exact NE_symm (main w v (by omega) hw hv)
def wc (L : Nat) (g : Int) : VX → List VX → Int
  | _, [] => 0
  | v, x :: l => dst L g v x + wc L g x l
def we : VX → List VX → VX
  | v, [] => v
  | _, x :: l => we x l
/-- a tour's net -/
theorem tour_net {N L : Nat} {g : Int} (hL : 0 < L) : ∀ (l : List VX) (v : VX), (v.1 < N ∧ v.2 ≤ L) → (∀ x, x ∈ l → x.1 < N ∧ x.2 ≤ L) → ∃ u a b, NP N L g v (we v l) u a b (wc L g v l) ∧ ∀ X, CLO L u a b X → ∀ x, x ∈ l → (X x ↔ X v) := by
  intro l
  induction l with
  | nil => intro v _ _; exact ⟨_, _, _, NP_refl v, fun X _ x hx => absurd hx (by simp)⟩
  | cons y l ih =>
    intro v hv hl
    have hy := hl y (by simp)
    obtain ⟨u, a, b, h1, h2⟩ := ih y hy (fun x hx => hl x (by simp [hx]))
    obtain ⟨u', a', b', k⟩ := NE_leg (g := g) hL hv hy
    refine ⟨_, _, _, NP_trans k h1, fun X hX x hx => ?_⟩
    have k9 := (k.2.2.2.2.2.2.2.2 X (CLO_left h1.1 h1.2.1 hX)).1
    rcases List.mem_cons.mp hx with e | e
    · rw [e]; exact k9.symm
    · exact (h2 X (CLO_right k.1 k.2.1 hX) x e).trans k9.symm
/-- parts of a net up to lane i that do not hang together -/
def SEP (L : Nat) (u : Nat → Nat → Int) (a b : Nat → Int) (i : Nat) : Prop := ∃ X : VX → Prop, (∀ j p, j ≤ i → 0 < u j p → (X (j, p) ↔ X (j, p + 1))) ∧ (∀ j, j + 1 ≤ i → 0 < a (j + 1) → (X (j, 0) ↔ X (j + 1, 0))) ∧ (∀ j, j + 1 ≤ i → 0 < b (j + 1) → (X (j, L) ↔ X (j + 1, L))) ∧ X (i, 0) ∧ ¬ X (i, L)
def JN (L : Nat) (u : Nat → Nat → Int) (a b : Nat → Int) : Nat → Prop
  | 0 => True
  | i + 1 => ¬ SEP L u a b i
theorem cB_congr {L : Nat} {g : Int} {u : Nat → Nat → Int} {a a' b : Nat → Int} (h : ∀ i, a' (i + 1) = a (i + 1)) : ∀ n : Nat, cB L g u a' b n = cB L g u a b n := by
  intro n
  induction n with
  | zero => rfl
  | succ n ih => unfold cB; rw [ih, h]
theorem join_down {L i p : Nat} {u : Nat → Nat → Int} {a b a' : Nat → Int} (hp : p < L) (hz : u i p = 0) (ha : ∀ k, a' (k + 1) = a (k + 1)) (ha0 : a' 0 = 2) (hJ : JN L u a b (i + 1)) : 0 < a' i ∧ 0 < b i ∧ JN L u a b i := by
  refine ⟨?_, ?_, ?_⟩
  · apply Classical.byContradiction
    intro hn
    apply hJ
    refine ⟨fun x => x.1 = i ∧ x.2 ≤ p, fun j q hj hu => ?_, fun j hj hh => ?_, fun j hj hh => ?_, ⟨rfl, by dsimp only; omega⟩, fun z => by have := z.2; dsimp only at this; omega⟩ <;> dsimp only
    · have : j = i → q ≠ p := fun e1 e2 => by rw [e1, e2, hz] at hu; omega
      omega
    · have : j + 1 ≠ i := fun e => by rw [← e, ha] at hn; omega
      omega
    · omega
  · apply Classical.byContradiction
    intro hn
    apply hJ
    refine ⟨fun x => x.1 < i ∨ (x.1 = i ∧ x.2 ≤ p), fun j q hj hu => ?_, fun j hj hh => ?_, fun j hj hh => ?_, Or.inr ⟨rfl, by dsimp only; omega⟩, fun z => by dsimp only at z; omega⟩ <;> dsimp only
    · have : j = i → q ≠ p := fun e1 e2 => by rw [e1, e2, hz] at hu; omega
      omega
    · omega
    · have : j + 1 ≠ i := fun e => by rw [e] at hh; omega
      omega
  · cases i with
    | zero => trivial
    | succ k =>
      rintro ⟨X, x1, x2, x3, x4, x5⟩
      apply hJ
      refine ⟨fun x => (x.1 < k + 1 ∧ X x) ∨ (x.1 = k + 1 ∧ x.2 ≤ p), fun j q hj hu => ?_, fun j hj hh => ?_, fun j hj hh => ?_, Or.inr ⟨rfl, by dsimp only; omega⟩, fun z => by
        rcases z with z | z
        · have := z.1; dsimp only at this; omega
        · have := z.2; dsimp only at this; omega⟩ <;> dsimp only
      · by_cases e : j = k + 1
        · have : q ≠ p := fun e2 => by rw [e, e2, hz] at hu; omega
          constructor
          · rintro (z | z)
            · omega
            · exact Or.inr (by omega)
          · rintro (z | z)
            · omega
            · exact Or.inr (by omega)
        · have y := x1 j q (by omega) hu
          constructor
          · rintro (z | z)
            · exact Or.inl ⟨z.1, y.mp z.2⟩
            · omega
          · rintro (z | z)
            · exact Or.inl ⟨z.1, y.mpr z.2⟩
            · omega
      · by_cases e : j = k
        · subst e
          exact ⟨fun _ => Or.inr ⟨rfl, by omega⟩, fun _ => Or.inl ⟨by omega, x4⟩⟩
        · have y := x2 j (by omega) hh
          constructor
          · rintro (z | z)
            · exact Or.inl ⟨by omega, y.mp z.2⟩
            · omega
          · rintro (z | z)
            · exact Or.inl ⟨by omega, y.mpr z.2⟩
            · omega
      · by_cases e : j = k
        · subst e
          constructor
          · rintro (z | z)
            · exact absurd z.2 x5
            · omega
          · rintro (z | z)
            · omega
            · omega
        · have y := x3 j (by omega) hh
          constructor
          · rintro (z | z)
            · exact Or.inl ⟨by omega, y.mp z.2⟩
            · omega
          · rintro (z | z)
            · exact Or.inl ⟨by omega, y.mpr z.2⟩
            · omega
theorem tour_NET {N L : Nat} {g : Int} {P : Nat → Nat → Prop} {u : Nat → Nat → Int} {a b : Nat → Int} {l : List VX} {c : Int} (hL : 2 ≤ L) (hN : 0 < N) (h : NP N L g (0, 0) (0, 0) u a b c) (hT : ∀ X, CLO L u a b X → ∀ x, x ∈ l → (X x ↔ X (0, 0))) (hcov : ∀ i p, i < N → P i p → (i, p) ∈ l) (hlast : ∃ p, P (N - 1) p) : NET L N P u (fun i => if i = 0 then 2 else a i) b (JN L u a b) := by
  obtain ⟨h1, h2, h3, h4, h5, h6, h7, h8, h9⟩ := h
  obtain ⟨pz, hz⟩ := hlast
  have hzl := hcov (N - 1) pz (by omega) hz
  have a1 : ∀ k, (if k + 1 = 0 then 2 else a (k + 1)) = a (k + 1) := fun k => if_neg (by omega)
  have an : ∀ i, ¬ (1 ≤ i ∧ i < N) → a i = 0 ∧ b i = 0 := fun i hi => by
    have := h2 i
    have : ¬ (0 < a i ∨ 0 < b i) := fun z => hi (h4 i z)
    omega
  have C : ∀ Y, CLO L u a b Y → (Y (N - 1, pz) ↔ Y (0, 0)) := fun Y hY => hT Y hY _ hzl
  have Ext : ∀ i, SEP L u a b i → i < N → ∃ X : VX → Prop, X (i, 0) ∧ ¬ X (i, L) ∧ (i + 1 = N ∨ a (i + 1) = 0 → CLO L u a b (fun x => x.1 ≤ i ∧ X x)) ∧ (i + 1 = N ∨ b (i + 1) = 0 → CLO L u a b (fun x => x.1 ≤ i ∧ ¬ X x)) := by
    rintro i ⟨X, x1, x2, x3, x4, x5⟩ hi
    refine ⟨X, x4, x5, fun hh => ⟨fun j q hu => ?_, fun j ha => ?_, fun j hb => ?_⟩, fun hh => ⟨fun j q hu => ?_, fun j ha => ?_, fun j hb => ?_⟩⟩ <;> dsimp only
    · by_cases e : j ≤ i
      · have := x1 j q e hu
        exact ⟨fun z => ⟨e, this.mp z.2⟩, fun z => ⟨e, this.mpr z.2⟩⟩
      · exact ⟨fun z => absurd z.1 e, fun z => absurd z.1 e⟩
    · by_cases e : j + 1 ≤ i
      · have := x2 j e ha
        exact ⟨fun z => ⟨e, this.mp z.2⟩, fun z => ⟨by omega, this.mpr z.2⟩⟩
      · by_cases e2 : j = i
        · exfalso
          subst e2
          rcases hh with y | y
          · have := h4 (j + 1) (Or.inl ha); omega
          · omega
        · exact ⟨fun z => absurd z.1 (by omega), fun z => absurd z.1 (by omega)⟩
    · by_cases e : j + 1 ≤ i
      · have := x3 j e hb
        exact ⟨fun z => ⟨e, this.mp z.2⟩, fun z => ⟨by omega, this.mpr z.2⟩⟩
      · by_cases e2 : j = i
        · subst e2
          exact ⟨fun z => absurd z.2 x5, fun z => absurd z.1 (by omega)⟩
        · exact ⟨fun z => absurd z.1 (by omega), fun z => absurd z.1 (by omega)⟩
    · by_cases e : j ≤ i
      · have := x1 j q e hu
        exact ⟨fun z => ⟨e, fun y => z.2 (this.mpr y)⟩, fun z => ⟨e, fun y => z.2 (this.mp y)⟩⟩
      · exact ⟨fun z => absurd z.1 e, fun z => absurd z.1 e⟩
    · by_cases e : j + 1 ≤ i
      · have := x2 j e ha
        exact ⟨fun z => ⟨e, fun y => z.2 (this.mpr y)⟩, fun z => ⟨by omega, fun y => z.2 (this.mp y)⟩⟩
      · by_cases e2 : j = i
        · subst e2
          exact ⟨fun z => absurd x4 z.2, fun z => absurd z.1 (by omega)⟩
        · exact ⟨fun z => absurd z.1 (by omega), fun z => absurd z.1 (by omega)⟩
    · by_cases e : j + 1 ≤ i
      · have := x3 j e hb
        exact ⟨fun z => ⟨e, fun y => z.2 (this.mpr y)⟩, fun z => ⟨by omega, fun y => z.2 (this.mp y)⟩⟩
      · by_cases e2 : j = i
        · exfalso
          subst e2
          rcases hh with y | y
          · have := h4 (j + 1) (Or.inr hb); omega
          · omega
        · exact ⟨fun z => absurd z.1 (by omega), fun z => absurd z.1 (by omega)⟩
  -- a closed part that meets the front (the back) of lane i meets the door
  have Fr : ∀ i Y, CLO L u a b Y → ¬ ((if i = 0 then 2 else a i) = 0 ∧ u i 0 = 0) → (Y (i, 0) ↔ Y (0, 0)) := fun i Y hY hn => by
    by_cases e0 : i = 0
    · subst e0; exact Iff.rfl
    · obtain ⟨k, rfl⟩ : ∃ k, i = k + 1 := ⟨i - 1, by omega⟩
      rw [if_neg e0] at hn
      obtain ⟨-, c2, c3, c4⟩ := h9 Y hY
      by_cases e : 0 < a (k + 1)
      · exact (hY.2.1 k e).symm.trans (c3 k e)
      · have := h2 (k + 1)
        have := h1 (k + 1) 0
        exact c2 (k + 1) 0 (by omega)
  have Bk : ∀ i Y, CLO L u a b Y → ¬ (b i = 0 ∧ u i (L - 1) = 0) → (Y (i, L) ↔ Y (0, 0)) := fun i Y hY hn => by
    obtain ⟨-, c2, c3, c4⟩ := h9 Y hY
    by_cases e : 0 < b i
    · have := h4 i (Or.inr e)
      obtain ⟨k, rfl⟩ : ∃ k, i = k + 1 := ⟨i - 1, by omega⟩
      exact (hY.2.2 k e).symm.trans (c4 k e)
    · have := h2 i
      have := h1 i (L - 1)
      have hu : 0 < u i (L - 1) := by omega
      have y := hY.1 i (L - 1) hu
      rw [show L - 1 + 1 = L by omega] at y
      exact y.symm.trans (c2 i (L - 1) hu)
  refine ⟨fun i p _ _ => h1 i p, fun i => ?_, if_pos rfl, (an 0 (by omega)).2, ?_, (an N (by omega)).2, fun i p hi hp => ?_, fun i hi => ?_, fun i hi => ?_, fun i hi hJ hzz => ?_, fun i hi => ?_, fun i hi hJ hb => ?_, fun i hi hJ ha => ?_, fun i hi hJ => ?_, fun i p q hi hpq hq hp0 hq0 x hx => ?_⟩
  · have := h2 i
    dsimp only
    by_cases e : i = 0
    · rw [if_pos e]; omega
    · rw [if_neg e]; exact this
  · dsimp only
    rw [if_neg (by omega)]
    exact (an N (by omega)).1
  · have ind : ∀ p, p < L → (u i p + u i 0) % 2 = 0 := by
      intro p
      induction p with
      | zero => intro _; omega
      | succ p ih =>
        intro hp
        have := ih (by omega)
        have := h6 i p hp
        rw [dlt_mk, if_neg (show ¬ (0 = i ∧ 0 = p + 1) by omega)] at this
        omega
    exact ind p hp
  · have := h7 i
    dsimp only
    rw [a1]
    by_cases e : i = 0
    · subst e
      rw [if_pos rfl]
      have := (an 0 (by omega)).1
      omega
    · rw [if_neg e]; omega
  · have := h8 i
    omega
  · obtain ⟨p, p1, p2⟩ := hzz
    exact join_down (a' := fun i => if i = 0 then 2 else a i) p1 p2 a1 (if_pos rfl) hJ
  · dsimp only
    have := h2 i
    by_cases e : i = 0
    · rw [if_pos e]; omega
    · rw [if_neg e]
      apply Classical.byContradiction
      intro hn
      obtain ⟨k, rfl⟩ : ∃ k, i = k + 1 := ⟨i - 1, by omega⟩
      have := (C (fun x => x.1 ≤ k) ⟨fun _ _ _ => Iff.rfl, fun j hj => by
        have : j ≠ k := fun e => by subst e; omega
        dsimp only; omega, fun j hj => by
        have : j ≠ k := fun e => by subst e; omega
        dsimp only; omega⟩).mpr (Nat.zero_le _)
      dsimp only at this
      omega
  · obtain ⟨X, y1, y2, y3, y4⟩ := Ext i (Classical.not_not.mp hJ) (by omega)
    apply Classical.byContradiction
    intro hn
    have hY := y4 (Or.inr hb)
    have := (C _ hY).mpr ((Bk i _ hY hn).mp ⟨Nat.le_refl _, y2⟩)
    have := this.1
    dsimp only at this
    omega
  · dsimp only at ha ⊢
    rw [a1] at ha
    obtain ⟨X, y1, y2, y3, y4⟩ := Ext i (Classical.not_not.mp hJ) (by omega)
    apply Classical.byContradiction
    intro hn
    have hY := y3 (Or.inr ha)
    have := (C _ hY).mpr ((Fr i _ hY hn).mp ⟨Nat.le_refl _, y1⟩)
    have := this.1
    dsimp only at this
    omega
  · dsimp only
    obtain ⟨X, y1, y2, y3, y4⟩ := Ext i (Classical.not_not.mp hJ) (by omega)
    have hY := y3 (Or.inl hi)
    apply Classical.byContradiction
    intro hn
    have d := (Fr i _ hY (fun z => hn (Or.inl z))).mp ⟨Nat.le_refl _, y1⟩
    have d2 := (Bk i _ hY (fun z => hn (Or.inr z))).mpr d
    exact y2 d2.2
  · apply Classical.byContradiction
    intro hn
    have := (hT (fun y => y.1 = i ∧ p < y.2 ∧ y.2 ≤ q) ⟨fun j r hu => by
      have e1 : j = i → r ≠ p := fun e1 e2 => by rw [e1, e2] at hu; omega
      have e2 : j = i → r ≠ q := fun e1 e2 => by rw [e1, e2] at hu; omega
      dsimp only
      omega, fun j _ => by dsimp only; omega, fun j _ => by dsimp only; omega⟩ _ (hcov i x hi hx)).mp (by dsimp only; omega)
    dsimp only at this
    omega
theorem tour_ge {N L : Nat} {g : Int} {P : Nat → Nat → Prop} {lk : Nat → Int × Int × Int} {l : List VX} (hL : 2 ≤ L) (hN : 0 < N) (hg : 0 ≤ g) (hlk : ∀ i, i < N → LK L (P i) (lk i).1 (lk i).2.1 (lk i).2.2) (hl : ∀ x, x ∈ l → x.1 < N ∧ x.2 ≤ L) (he : we (0, 0) l = (0, 0)) (hcov : ∀ i p, i < N → P i p → (i, p) ∈ l) (hlast : ∃ p, P (N - 1) p) :
    ∀ s, s = wlk L (lk (N - 1)).1 (lk (N - 1)).2.1 (lk (N - 1)).2.2 (wst L g lk (N - 1)) → min s.2.1 (min s.2.2.1 s.2.2.2.1) ≤ wc L g (0, 0) l := by
  intro s hs
  obtain ⟨u, a, b, h1, h2⟩ := tour_net (N := N) (g := g) (show 0 < L by omega) l (0, 0) ⟨hN, Nat.zero_le _⟩ hl
  rw [he] at h1
  have n := tour_NET hL hN h1 h2 hcov hlast
  have := (net_le (show 0 < L by omega) hg hlk n).2 (N - 1) (by omega) s hs
  rw [cB_congr (a := a) (fun i => if_neg (by omega)), h1.2.2.2.2.1] at this
  exact this
/-! ===== each of the five forms is walked ===== -/
theorem we_app {v : VX} : ∀ (l m : List VX) , we v (l ++ m) = we (we v l) m := by
  intro l
  induction l generalizing v with
  | nil => intro m; rfl
  | cons x l ih => intro m; exact ih (v := x) m
theorem wc_app {L : Nat} {g : Int} {v : VX} : ∀ (l m : List VX), wc L g v (l ++ m) = wc L g v l + wc L g (we v l) m := by
  intro l
  induction l generalizing v with
  | nil => intro m; show _ = 0 + _; rw [Int.zero_add]; rfl
  | cons x l ih =>
    intro m
    show dst L g v x + wc L g x (l ++ m) = dst L g v x + wc L g x l + wc L g (we x l) m
    rw [ih]; omega
theorem we_mem {v : VX} : ∀ l : List VX, we v l = v ∨ we v l ∈ l := by
  intro l
  induction l generalizing v with
  | nil => exact Or.inl rfl
  | cons x l ih =>
    right
    rcases ih (v := x) with h | h
    · show we x l ∈ x :: l; rw [h]; simp
    · show we x l ∈ x :: l; exact List.mem_cons_of_mem _ h
def WK (L : Nat) (g : Int) (v w : VX) (S : VX → Prop) (c : Int) : Prop := ∃ l : List VX, we v l = w ∧ wc L g v l ≤ c ∧ (∀ x, x ∈ l → x.2 ≤ L) ∧ ∀ x, S x → x = v ∨ x ∈ l
theorem WK_refl {L : Nat} {g : Int} {v : VX} : WK L g v v (fun x => x = v) 0 := ⟨[], rfl, Int.le_refl _, fun x hx => absurd hx (by simp), fun x hx => Or.inl hx⟩
theorem WK_mono {L : Nat} {g c c' : Int} {v w : VX} {S S' : VX → Prop} (h : WK L g v w S c) (hc : c ≤ c') (hS : ∀ x, S' x → S x) : WK L g v w S' c' := by
  obtain ⟨l, h1, h2, h3, h4⟩ := h
  exact ⟨l, h1, by omega, h3, fun x hx => h4 x (hS x hx)⟩
theorem WK_trans {L : Nat} {g c d : Int} {v w z : VX} {S T : VX → Prop} (h : WK L g v w S c) (k : WK L g w z T d) : WK L g v z (fun x => S x ∨ T x) (c + d) := by
  obtain ⟨l, h1, h2, h3, h4⟩ := h
  obtain ⟨m, k1, k2, k3, k4⟩ := k
  refine ⟨l ++ m, by rw [we_app, h1, k1], by rw [wc_app, h1]; omega, fun x hx => ?_, fun x hx => ?_⟩
  · rcases List.mem_append.mp hx with y | y
    · exact h3 x y
    · exact k3 x y
  · rcases hx with y | y
    · rcases h4 x y with e | e
      · exact Or.inl e
      · exact Or.inr (List.mem_append.mpr (Or.inl e))
    · rcases k4 x y with e | e
      · rcases we_mem (v := v) l with f | f
        · left; rw [e, ← h1, f]
        · right; rw [e, ← h1]; exact List.mem_append.mpr (Or.inl f)
      · exact Or.inr (List.mem_append.mpr (Or.inr e))
theorem WK_step {L : Nat} {g : Int} {v w : VX} (hw : w.2 ≤ L) : WK L g v w (fun x => x = v ∨ x = w) (dst L g v w) := by
  refine ⟨[w], rfl, ?_, fun x hx => ?_, fun x hx => ?_⟩
  · show dst L g v w + 0 ≤ _; omega
  · rw [List.mem_singleton.mp hx]; exact hw
  · rcases hx with e | e
    · exact Or.inl e
    · exact Or.inr (by rw [e]; simp)
theorem dst_lane {L i p q : Nat} {g : Int} : dst L g (i, p) (i, q) = if q ≤ p then (p : Int) - q else (q : Int) - p := by
  unfold dst; rw [if_pos rfl]
/-- along a lane, there and back -/
theorem WK_lane {L i p : Nat} {g : Int} : ∀ k : Nat, p + k ≤ L → WK L g (i, p) (i, p + k) (fun x => x.1 = i ∧ p ≤ x.2 ∧ x.2 ≤ p + k) k ∧ WK L g (i, p + k) (i, p) (fun x => x.1 = i ∧ p ≤ x.2 ∧ x.2 ≤ p + k) k := by
  intro k
  induction k with
  | zero =>
    intro _
    have h : ∀ x : VX, (x.1 = i ∧ p ≤ x.2 ∧ x.2 ≤ p + 0) → x = (i, p) := fun x hx => by
      obtain ⟨a, b⟩ := x
      dsimp only at hx
      rw [show a = i by omega, show b = p by omega]
    exact ⟨WK_mono WK_refl (Int.le_refl _) h, WK_mono WK_refl (Int.le_refl _) h⟩
  | succ k ih =>
    intro hk
    obtain ⟨a, b⟩ := ih (by omega)
    have s1 := WK_step (L := L) (g := g) (v := (i, p + k)) (w := (i, p + (k + 1))) hk
    have s2 := WK_step (L := L) (g := g) (v := (i, p + (k + 1))) (w := (i, p + k)) (by dsimp only; omega)
    rw [dst_lane, if_neg (by omega)] at s1
    rw [dst_lane, if_pos (by omega)] at s2
    have cov : ∀ x : VX, (x.1 = i ∧ p ≤ x.2 ∧ x.2 ≤ p + (k + 1)) → (x.1 = i ∧ p ≤ x.2 ∧ x.2 ≤ p + k) ∨ x = (i, p + (k + 1)) := fun x hx => by
      obtain ⟨a, b⟩ := x
      dsimp only at hx ⊢
      by_cases e : b = p + (k + 1)
      · right; rw [e, hx.1]
      · left; omega
    refine ⟨WK_mono (WK_trans a s1) (by omega) fun x hx => ?_, WK_mono (WK_trans s2 b) (by omega) fun x hx => ?_⟩
    · rcases cov x hx with y | y
      · exact Or.inl y
      · exact Or.inr (Or.inr y)
    · rcases cov x hx with y | y
      · exact Or.inr y
      · exact Or.inl (Or.inl y)
theorem WK_cross {L i p : Nat} {g : Int} (hp : p = 0 ∨ p = L) : WK L g (i, p) (i + 1, p) (fun x => x = (i, p) ∨ x = (i + 1, p)) g ∧ WK L g (i + 1, p) (i, p) (fun x => x = (i + 1, p) ∨ x = (i, p)) g := by
  have hl : p ≤ L := by omega
  have s1 := WK_step (L := L) (g := g) (v := (i, p)) (w := (i + 1, p)) hl
  have s2 := WK_step (L := L) (g := g) (v := (i + 1, p)) (w := (i, p)) hl
  have e1 : dst L g (i, p) (i + 1, p) = g := by
    unfold dst
    dsimp only
    rw [if_neg (by omega), if_neg (by omega), show ((i + 1 : Nat) : Int) - i = 1 by omega, Int.mul_one]
    omega
  rw [e1] at s1
  rw [dst_symm, e1] at s2
  exact ⟨s1, s2⟩
/-- closed at the front and closed at the back -/
def SPL (L : Nat) (g : Int) (i : Nat) (S : VX → Prop) (c : Int) : Prop := ∃ S1 S2 : VX → Prop, ∃ c1 c2 : Int, WK L g (i, 0) (i, 0) S1 c1 ∧ WK L g (i, L) (i, L) S2 c2 ∧ (∀ x, S x → S1 x ∨ S2 x) ∧ c1 + c2 ≤ c
/-- there and back between front and back -/
def JND (L : Nat) (g : Int) (i : Nat) (S : VX → Prop) (c : Int) : Prop := ∃ S1 S2 : VX → Prop, ∃ c1 c2 : Int, WK L g (i, 0) (i, L) S1 c1 ∧ WK L g (i, L) (i, 0) S2 c2 ∧ (∀ x, S x → S1 x ∨ S2 x) ∧ c1 + c2 ≤ c
theorem SPL_front {L i : Nat} {g c : Int} {S : VX → Prop} (h : WK L g (i, 0) (i, 0) S c) : SPL L g i S c := ⟨S, _, c, 0, h, WK_refl, fun x hx => Or.inl hx, by omega⟩
theorem SPL_rear {L i : Nat} {g c : Int} {S : VX → Prop} (h : WK L g (i, L) (i, L) S c) : SPL L g i S c := ⟨_, S, 0, c, WK_refl, h, fun x hx => Or.inr hx, by omega⟩
theorem SPL_mono {L i : Nat} {g c c' : Int} {S S' : VX → Prop} (h : SPL L g i S c) (hc : c ≤ c') (hS : ∀ x, S' x → S x) : SPL L g i S' c' := by
  obtain ⟨S1, S2, c1, c2, h1, h2, h3, h4⟩ := h
  exact ⟨S1, S2, c1, c2, h1, h2, fun x hx => h3 x (hS x hx), by omega⟩
theorem JND_mono {L i : Nat} {g c c' : Int} {S S' : VX → Prop} (h : JND L g i S c) (hc : c ≤ c') (hS : ∀ x, S' x → S x) : JND L g i S' c' := by
  obtain ⟨S1, S2, c1, c2, h1, h2, h3, h4⟩ := h
  exact ⟨S1, S2, c1, c2, h1, h2, fun x hx => h3 x (hS x hx), by omega⟩
theorem SPL_add {L i : Nat} {g c d : Int} {S T : VX → Prop} (h : SPL L g i S c) (k : SPL L g i T d) : SPL L g i (fun x => S x ∨ T x) (c + d) := by
  obtain ⟨S1, S2, c1, c2, h1, h2, h3, h4⟩ := h
  obtain ⟨T1, T2, d1, d2, k1, k2, k3, k4⟩ := k
  refine ⟨_, _, _, _, WK_trans h1 k1, WK_trans h2 k2, fun x hx => ?_, by omega⟩
  rcases hx with y | y
  · rcases h3 x y with z | z
    · exact Or.inl (Or.inl z)
    · exact Or.inr (Or.inl z)
  · rcases k3 x y with z | z
    · exact Or.inl (Or.inr z)
    · exact Or.inr (Or.inr z)
/-- a way from the front to the back, with what is closed at its ends -/
theorem ODD_add {L i : Nat} {g c d : Int} {S T : VX → Prop} (h : WK L g (i, 0) (i, L) S c) (k : SPL L g i T d) : WK L g (i, 0) (i, L) (fun x => S x ∨ T x) (c + d) := by
  obtain ⟨T1, T2, d1, d2, k1, k2, k3, k4⟩ := k
  refine WK_mono (WK_trans (WK_trans k1 h) k2) (by omega) fun x hx => ?_
  rcases hx with y | y
  · exact Or.inl (Or.inr y)
  · rcases k3 x y with z | z
    · exact Or.inl (Or.inl z)
    · exact Or.inr z
theorem JND_add {L i : Nat} {g c d : Int} {S T : VX → Prop} (h : JND L g i S c) (k : SPL L g i T d) : JND L g i (fun x => S x ∨ T x) (c + d) := by
  obtain ⟨S1, S2, c1, c2, h1, h2, h3, h4⟩ := h
  obtain ⟨T1, T2, d1, d2, k1, k2, k3, k4⟩ := k
  have o := ODD_add h1 (c := c1) ⟨T1, T2, d1, d2, k1, k2, fun x hx => hx, Int.le_refl _⟩
  refine ⟨_, S2, _, c2, o, h2, fun x hx => ?_, by omega⟩
  rcases hx with y | y
  · rcases h3 x y with z | z
    · exact Or.inl (Or.inl z)
    · exact Or.inr z
  · exact Or.inl (Or.inr (k3 x y))
theorem WK_all {L i : Nat} {g : Int} : WK L g (i, 0) (i, L) (fun x => x.1 = i ∧ x.2 ≤ L) L ∧ WK L g (i, L) (i, 0) (fun x => x.1 = i ∧ x.2 ≤ L) L := by
  have h := WK_lane (L := L) (i := i) (p := 0) (g := g) L (by omega)
  rw [Nat.zero_add] at h
  exact ⟨WK_mono h.1 (Int.le_refl _) fun x hx => ⟨hx.1, Nat.zero_le _, hx.2⟩, WK_mono h.2 (Int.le_refl _) fun x hx => ⟨hx.1, Nat.zero_le _, hx.2⟩⟩
/-- what the lane's own turns cost -/
theorem lane_split {L i : Nat} {g d sh wd : Int} {P : Nat → Prop} (hK : LK L P d sh wd) (hd : d ≠ 0) : WK L g (i, 0) (i, 0) (fun x => x.1 = i ∧ P x.2) (2 * d) ∧ WK L g (i, L) (i, L) (fun x => x.1 = i ∧ P x.2) (2 * ((L : Int) - sh)) ∧ SPL L g i (fun x => x.1 = i ∧ P x.2) (2 * ((L : Int) - wd)) := by
  rcases hK with ⟨k, -⟩ | ⟨d1, k1, ⟨pd, k2, k3⟩, ⟨ps, k4, k5⟩, w0, w1, -, x, y, k6, k7, k8, k9⟩
  · exact absurd k hd
  have kd := k1 pd k2
  have ks := k1 ps k4
  have front : ∀ q : Nat, q ≤ L → WK L g (i, 0) (i, 0) (fun x => x.1 = i ∧ x.2 ≤ q) (2 * q) := fun q hq => by
    have h := WK_lane (L := L) (i := i) (p := 0) (g := g) q (by omega)
    rw [Nat.zero_add] at h
    exact WK_mono (WK_trans h.1 h.2) (by omega) fun x hx => Or.inl ⟨hx.1, Nat.zero_le _, hx.2⟩
  have rear : ∀ q : Nat, q ≤ L → WK L g (i, L) (i, L) (fun x => x.1 = i ∧ q ≤ x.2 ∧ x.2 ≤ L) (2 * ((L : Int) - q)) := fun q hq => by
    have h := WK_lane (L := L) (i := i) (p := q) (g := g) (L - q) (by omega)
    rw [show q + (L - q) = L by omega] at h
    exact WK_mono (WK_trans h.2 h.1) (by omega) fun x hx => Or.inl hx
  refine ⟨WK_mono (front pd (by omega)) (by omega) fun x hx => ⟨hx.1, by have := k1 x.2 hx.2; omega⟩, WK_mono (rear ps (by omega)) (by omega) fun x hx => ⟨hx.1, by have := k1 x.2 hx.2; omega⟩, _, _, _, _, front x (by omega), rear y k7, fun z hz => ?_, by omega⟩
  have := k1 z.2 hz.2
  rcases k9 z.2 hz.2 with t | t
  · exact Or.inl ⟨hz.1, t⟩
  · exact Or.inr ⟨hz.1, t, by omega⟩
def FI (L : Nat) (g : Int) (i : Nat) (S : VX → Prop) (s : W5) : Prop :=
  (s.1 < 1000000 → WK L g (i, 0) (i, L) S s.1) ∧ (s.2.1 < 1000000 → WK L g (i, 0) (i, 0) S s.2.1) ∧ (s.2.2.1 < 1000000 → WK L g (i, L) (i, L) S s.2.2.1) ∧ (s.2.2.2.1 < 1000000 → JND L g i S s.2.2.2.1) ∧ (s.2.2.2.2 < 1000000 → SPL L g i S s.2.2.2.2)
theorem FI_cross {L i : Nat} {g : Int} {S : VX → Prop} {s : W5} (hg : 0 ≤ g) (h : FI L g i S s) : FI L g (i + 1) S (crs g s) := by
  obtain ⟨o, f, r, j, m⟩ := s
  obtain ⟨h1, h2, h3, h4, h5⟩ := h
  dsimp only at h1 h2 h3 h4 h5
  have F := WK_cross (L := L) (i := i) (p := 0) (g := g) (Or.inl rfl)
  have B := WK_cross (L := L) (i := i) (p := L) (g := g) (Or.inr rfl)
  have mid : ∀ {v w w' z : VX} {A C T : VX → Prop} {c : Int}, WK L g v w A g → WK L g w w' T c → WK L g w' z C g → WK L g v z T (c + 2 * g) := fun a b c => WK_mono (WK_trans (WK_trans a b) c) (by omega) fun x hx => Or.inl (Or.inr hx)
  have jf : j < 1000000 → WK L g (i, 0) (i, 0) S j ∧ WK L g (i, L) (i, L) S j := fun hj => by
    obtain ⟨S1, S2, c1, c2, a, b, c, d⟩ := h4 hj
    exact ⟨WK_mono (WK_trans a b) d c, WK_mono (WK_trans b a) (by omega) fun x hx => (c x hx).symm⟩
  unfold FI crs
  dsimp only
  refine ⟨fun z => ?_, fun z => ?_, fun z => ?_, fun z => ?_, fun z => ?_⟩
  · exact mid F.2 (h1 (by omega)) B.1
  · by_cases e : f ≤ j
    · rw [show min f j = f by omega]
      exact mid F.2 (h2 (by omega)) F.1
    · rw [show min f j = j by omega]
      exact mid F.2 (jf (by omega)).1 F.1
  · by_cases e : r ≤ j
    · rw [show min r j = r by omega]
      exact mid B.2 (h3 (by omega)) B.1
    · rw [show min r j = j by omega]
      exact mid B.2 (jf (by omega)).2 B.1
  · obtain ⟨S1, S2, c1, c2, a, b, c, d⟩ := h4 (by omega)
    exact ⟨S1, S2, _, _, mid F.2 a B.1, mid B.2 b F.1, c, by omega⟩
  · obtain ⟨S1, S2, c1, c2, a, b, c, d⟩ := h5 (by omega)
    exact ⟨S1, S2, _, _, mid F.2 a F.1, mid B.2 b B.1, c, by omega⟩
theorem FI_lane {L i : Nat} {g d sh wd : Int} {P : Nat → Prop} {S : VX → Prop} {s : W5} (hK : LK L P d sh wd) (h : FI L g i S s) : FI L g i (fun x => S x ∨ (x.1 = i ∧ P x.2)) (wlk L d sh wd s) := by
  obtain ⟨o, f, r, j, m⟩ := s
  obtain ⟨h1, h2, h3, h4, h5⟩ := h
  dsimp only at h1 h2 h3 h4 h5
  have A := WK_all (L := L) (i := i) (g := g)
  have PL : ∀ x : VX, (x.1 = i ∧ P x.2) → x.1 = i ∧ x.2 ≤ L := fun x hx => by
    rcases hK with ⟨-, k⟩ | ⟨-, k, -⟩
    · exact absurd hx.2 (k _)
    · have := k x.2 hx.2; exact ⟨hx.1, by omega⟩
  -- an even form
  have ev : evn (o, f, r, j, m) < 1000000 → JND L g i S (evn (o, f, r, j, m)) ∨ SPL L g i S (evn (o, f, r, j, m)) := fun z => by
    unfold evn at z ⊢
    dsimp only at z ⊢
    have : min (min f r) (min j m) = f ∨ min (min f r) (min j m) = r ∨ min (min f r) (min j m) = j ∨ min (min f r) (min j m) = m := by omega
    rcases this with e | e | e | e <;> rw [e] at z ⊢
    · exact Or.inr (SPL_front (h2 z))
    · exact Or.inr (SPL_rear (h3 z))
    · exact Or.inl (h4 z)
    · exact Or.inr (h5 z)
  generalize hev : evn (o, f, r, j, m) = e at ev
  have oA : e + L < 1000000 → WK L g (i, 0) (i, L) (fun x => S x ∨ (x.1 = i ∧ P x.2)) (e + L) := fun z => by
    rcases ev (by omega) with y | y
    · obtain ⟨S1, S2, c1, c2, a, b, c, d⟩ := y
      refine WK_mono (WK_trans (WK_trans a b) A.1) (by omega) fun x hx => ?_
      rcases hx with u | u
      · exact Or.inl (c x u)
      · exact Or.inr (PL x u)
    · refine WK_mono (ODD_add A.1 y) (by omega) fun x hx => ?_
      rcases hx with u | u
      · exact Or.inr u
      · exact Or.inl (PL x u)
  have oB : o + 2 * L < 1000000 → WK L g (i, 0) (i, L) (fun x => S x ∨ (x.1 = i ∧ P x.2)) (o + 2 * L) := fun z => by
    refine WK_mono (WK_trans (WK_trans (h1 (by omega)) A.2) A.1) (by omega) fun x hx => ?_
    rcases hx with u | u
    · exact Or.inl (Or.inl u)
    · exact Or.inr (PL x u)
  have oC : min (e + L) (o + 2 * L) < 1000000 → WK L g (i, 0) (i, L) (fun x => S x ∨ (x.1 = i ∧ P x.2)) (min (e + L) (o + 2 * L)) := fun z => by
    by_cases y : e + L ≤ o + 2 * L
    · rw [show min (e + L) (o + 2 * L) = e + L by omega] at z ⊢; exact oA z
    · rw [show min (e + L) (o + 2 * L) = o + 2 * L by omega] at z ⊢; exact oB z
  have jA : e + 2 * L < 1000000 → JND L g i (fun x => S x ∨ (x.1 = i ∧ P x.2)) (e + 2 * L) := fun z => by
    rcases ev (by omega) with y | y
    · obtain ⟨S1, S2, c1, c2, a, b, c, d⟩ := y
      refine ⟨_, _, _, _, a, WK_trans (WK_trans b A.1) A.2, fun x hx => ?_, by omega⟩
      rcases hx with u | u
      · rcases c x u with t | t
        · exact Or.inl t
        · exact Or.inr (Or.inl (Or.inl t))
      · exact Or.inr (Or.inr (PL x u))
    · refine ⟨_, _, _, _, ODD_add A.1 y, A.2, fun x hx => ?_, by omega⟩
      rcases hx with u | u
      · exact Or.inl (Or.inr u)
      · exact Or.inr (PL x u)
  have jB : o + L < 1000000 → JND L g i (fun x => S x ∨ (x.1 = i ∧ P x.2)) (o + L) := fun z => by
    refine ⟨_, _, _, _, h1 (by omega), A.2, fun x hx => ?_, by omega⟩
    rcases hx with u | u
    · exact Or.inl u
    · exact Or.inr (PL x u)
  have jC : min (e + 2 * L) (o + L) < 1000000 → JND L g i (fun x => S x ∨ (x.1 = i ∧ P x.2)) (min (e + 2 * L) (o + L)) := fun z => by
    by_cases y : e + 2 * L ≤ o + L
    · rw [show min (e + 2 * L) (o + L) = e + 2 * L by omega] at z ⊢; exact jA z
    · rw [show min (e + 2 * L) (o + L) = o + L by omega] at z ⊢; exact jB z
  clear oA oB jA jB
  have min_cases : ∀ {Q : Int → Prop} {a b : Int}, (a < 1000000 → Q a) → (b < 1000000 → Q b) → min a b < 1000000 → Q (min a b) := fun {Q a b} qa qb z => by
    by_cases y : a ≤ b
    · rw [show min a b = a by omega] at z ⊢; exact qa z
    · rw [show min a b = b by omega] at z ⊢; exact qb z
  by_cases hd : d = 0
  · have np : ∀ x : VX, ¬ (x.1 = i ∧ P x.2) := fun x hx => by
      rcases hK with ⟨-, k⟩ | ⟨k, -⟩
      · exact k _ hx.2
      · omega
    have eS : ∀ x : VX, (S x ∨ (x.1 = i ∧ P x.2)) → S x := fun x hx => hx.elim id fun y => absurd y (np x)
    unfold FI wlk
    simp only [if_pos hd, hev]
    refine ⟨fun z => ?_, fun z => ?_, fun z => ?_, fun z => ?_, fun z => ?_⟩
    · exact min_cases (Q := fun c => WK L g (i, 0) (i, L) (fun x => S x ∨ (x.1 = i ∧ P x.2)) c) oC (fun y => WK_mono (h1 y) (Int.le_refl _) eS) z
    · exact min_cases (Q := fun c => WK L g (i, 0) (i, 0) (fun x => S x ∨ (x.1 = i ∧ P x.2)) c) (fun y => absurd y (by decide)) (fun y => WK_mono (h2 y) (Int.le_refl _) eS) z
    · exact min_cases (Q := fun c => WK L g (i, L) (i, L) (fun x => S x ∨ (x.1 = i ∧ P x.2)) c) (fun y => absurd y (by decide)) (fun y => WK_mono (h3 y) (Int.le_refl _) eS) z
    · exact min_cases (Q := fun c => JND L g i (fun x => S x ∨ (x.1 = i ∧ P x.2)) c) jC (fun y => JND_mono (h4 y) (Int.le_refl _) eS) z
    · exact min_cases (Q := fun c => SPL L g i (fun x => S x ∨ (x.1 = i ∧ P x.2)) c) (fun y => absurd y (by decide)) (fun y => SPL_mono (h5 y) (Int.le_refl _) eS) z
  · obtain ⟨t1, t2, t3⟩ := lane_split (i := i) (g := g) hK hd
    have nn : 0 ≤ 2 * d ∧ 0 ≤ 2 * ((L : Int) - sh) ∧ 0 ≤ 2 * ((L : Int) - wd) := by
      rcases hK with ⟨k, -⟩ | ⟨d1, k1, ⟨pd, k2, k3⟩, ⟨ps, k4, k5⟩, w0, w1, -⟩
      · exact absurd k hd
      · have := k1 ps k4
        omega
    have sp : SPL L g i (fun x => x.1 = i ∧ P x.2) (min (2 * d) (min (2 * ((L : Int) - sh)) (2 * ((L : Int) - wd)))) := by
      have : min (2 * d) (min (2 * ((L : Int) - sh)) (2 * ((L : Int) - wd))) = 2 * d ∨ min (2 * d) (min (2 * ((L : Int) - sh)) (2 * ((L : Int) - wd))) = 2 * ((L : Int) - sh) ∨ min (2 * d) (min (2 * ((L : Int) - sh)) (2 * ((L : Int) - wd))) = 2 * ((L : Int) - wd) := by omega
      rcases this with e | e | e <;> rw [e]
      · exact SPL_front t1
      · exact SPL_rear t2
      · exact t3
    have sr : SPL L g i (fun x => x.1 = i ∧ P x.2) (min (2 * ((L : Int) - sh)) (2 * ((L : Int) - wd))) := by
      have : min (2 * ((L : Int) - sh)) (2 * ((L : Int) - wd)) = 2 * ((L : Int) - sh) ∨ min (2 * ((L : Int) - sh)) (2 * ((L : Int) - wd)) = 2 * ((L : Int) - wd) := by omega
      rcases this with e | e <;> rw [e]
      · exact SPL_rear t2
      · exact t3
    have sf : SPL L g i (fun x => x.1 = i ∧ P x.2) (min (2 * d) (2 * ((L : Int) - wd))) := by
      have : min (2 * d) (2 * ((L : Int) - wd)) = 2 * d ∨ min (2 * d) (2 * ((L : Int) - wd)) = 2 * ((L : Int) - wd) := by omega
      rcases this with e | e <;> rw [e]
      · exact SPL_front t1
      · exact t3
    have n1 : 0 ≤ min (2 * d) (min (2 * ((L : Int) - sh)) (2 * ((L : Int) - wd))) := by omega
    have n2 : 0 ≤ min (2 * ((L : Int) - sh)) (2 * ((L : Int) - wd)) := by omega
    have n3 : 0 ≤ min (2 * d) (2 * ((L : Int) - wd)) := by omega
    unfold FI wlk
    simp only [if_neg hd, hev]
    generalize min (2 * d) (min (2 * ((L : Int) - sh)) (2 * ((L : Int) - wd))) = X at *
    generalize min (2 * ((L : Int) - sh)) (2 * ((L : Int) - wd)) = Y at *
    generalize min (2 * d) (2 * ((L : Int) - wd)) = Z at *
    refine ⟨fun z => ?_, fun z => ?_, fun z => ?_, fun z => ?_, fun z => ?_⟩
    · exact min_cases (Q := fun c => WK L g (i, 0) (i, L) (fun x => S x ∨ (x.1 = i ∧ P x.2)) c) oC (fun y => ODD_add (h1 (by omega)) sp) z
    · exact WK_trans (h2 (by omega)) t1
    · exact WK_trans (h3 (by omega)) t2
    · exact min_cases (Q := fun c => JND L g i (fun x => S x ∨ (x.1 = i ∧ P x.2)) c) jC (fun y => JND_add (h4 (by omega)) sp) z
    · refine min_cases (Q := fun c => SPL L g i (fun x => S x ∨ (x.1 = i ∧ P x.2)) c) (fun y => SPL_add (h5 (by omega)) sp) (fun y => ?_) z
      exact min_cases (Q := fun c => SPL L g i (fun x => S x ∨ (x.1 = i ∧ P x.2)) c) (fun y => SPL_add (SPL_front (h2 (by omega))) sr) (fun y => SPL_add (SPL_rear (h3 (by omega))) sf) y
theorem nfar : ¬ (1000000 : Int) < 1000000 := by decide
theorem FI_all {L N : Nat} {g : Int} {P : Nat → Nat → Prop} {lk : Nat → Int × Int × Int} (hg : 0 ≤ g) (hlk : ∀ i, i < N → LK L (P i) (lk i).1 (lk i).2.1 (lk i).2.2) : ∀ i, i < N → FI L g i (fun x => x = (0, 0) ∨ (x.1 < i ∧ P x.1 x.2)) (wst L g lk i) := by
  intro i
  induction i with
  | zero =>
    intro _
    refine ⟨fun z => absurd z nfar, fun z => ?_, fun z => absurd z nfar, fun z => absurd z nfar, fun z => absurd z nfar⟩
    exact WK_mono WK_refl (Int.le_refl _) fun x hx => hx.elim id fun y => absurd y.1 (by omega)
  | succ i ih =>
    intro hi
    have a := FI_cross hg (FI_lane (hlk i (by omega)) (ih (by omega)))
    have eS : ∀ x : VX, (x = (0, 0) ∨ (x.1 < i + 1 ∧ P x.1 x.2)) → (x = (0, 0) ∨ (x.1 < i ∧ P x.1 x.2)) ∨ (x.1 = i ∧ P i x.2) := fun x hx => by
      rcases hx with y | y
      · exact Or.inl (Or.inl y)
      · by_cases e : x.1 = i
        · exact Or.inr ⟨e, by rw [← e]; exact y.2⟩
        · exact Or.inl (Or.inr ⟨by omega, y.2⟩)
    obtain ⟨a1, a2, a3, a4, a5⟩ := a
    exact ⟨fun z => WK_mono (a1 z) (Int.le_refl _) eS, fun z => WK_mono (a2 z) (Int.le_refl _) eS, fun z => WK_mono (a3 z) (Int.le_refl _) eS, fun z => JND_mono (a4 z) (Int.le_refl _) eS, fun z => SPL_mono (a5 z) (Int.le_refl _) eS⟩
theorem wst_front {L N : Nat} {g : Int} {P : Nat → Nat → Prop} {lk : Nat → Int × Int × Int} (hg : 0 ≤ g) (hlk : ∀ i, i < N → LK L (P i) (lk i).1 (lk i).2.1 (lk i).2.2) : ∀ i, i < N → (wst L g lk i).2.1 ≤ (2 * (L : Int) + 2 * g) * i ∧ (wlk L (lk i).1 (lk i).2.1 (lk i).2.2 (wst L g lk i)).2.1 ≤ (2 * (L : Int) + 2 * g) * i + 2 * L := by
  have st : ∀ i, i < N → ∀ s : W5, (wlk L (lk i).1 (lk i).2.1 (lk i).2.2 s).2.1 ≤ s.2.1 + 2 * L := fun i hi s => by
    have k := hlk i hi
    unfold wlk
    by_cases hd : (lk i).1 = 0
    · simp only [if_pos hd]; omega
    · simp only [if_neg hd]
      rcases k with ⟨k, -⟩ | ⟨d1, k1, ⟨pd, k2, k3⟩, -⟩
      · exact absurd k hd
      · have := k1 pd k2
        omega
  intro i
  induction i with
  | zero =>
    intro hi
    have e : (wst L g lk 0).2.1 = 0 := rfl
    have := st 0 hi (wst L g lk 0)
    rw [e] at this ⊢
    simp only [Int.natCast_zero, Int.mul_zero]
    omega
  | succ i ih =>
    intro hi
    have a := (ih (by omega)).2
    have e : (wst L g lk (i + 1)).2.1 = min (wlk L (lk i).1 (lk i).2.1 (lk i).2.2 (wst L g lk i)).2.1 (wlk L (lk i).1 (lk i).2.1 (lk i).2.2 (wst L g lk i)).2.2.2.1 + 2 * g := rfl
    have m : (2 * (L : Int) + 2 * g) * ((i + 1 : Nat) : Int) = (2 * (L : Int) + 2 * g) * i + (2 * (L : Int) + 2 * g) := by rw [Int.natCast_add, Int.mul_add]; simp
    have b := st (i + 1) hi (wst L g lk (i + 1))
    rw [m]
    omega
/-- a closed walk from the door -/
theorem walk_le {L N : Nat} {g : Int} {P : Nat → Nat → Prop} {lk : Nat → Int × Int × Int} (hg : 0 ≤ g) (hg5 : g ≤ 5) (hL9 : L ≤ 9) (hN : 0 < N) (hN6 : N ≤ 6) (hlk : ∀ i, i < N → LK L (P i) (lk i).1 (lk i).2.1 (lk i).2.2) :
    ∀ s, s = wlk L (lk (N - 1)).1 (lk (N - 1)).2.1 (lk (N - 1)).2.2 (wst L g lk (N - 1)) → min s.2.1 (min s.2.2.1 s.2.2.2.1) < 1000000 ∧ ∃ l : List VX, we (0, 0) l = (0, 0) ∧ wc L g (0, 0) l ≤ min s.2.1 (min s.2.2.1 s.2.2.2.1) ∧ (∀ x, x ∈ l → x.2 ≤ L) ∧ ∀ i p, i < N → P i p → (i, p) = ((0, 0) : VX) ∨ (i, p) ∈ l := by
  intro s hs
  have fr := (wst_front hg hlk (N - 1) (by omega)).2
  rw [← hs] at fr
  have b1 : (2 * (L : Int) + 2 * g) * ((N - 1 : Nat) : Int) ≤ 28 * 5 := Int.mul_le_mul (by omega) (by omega) (by omega) (by omega)
  have lt : min s.2.1 (min s.2.2.1 s.2.2.2.1) < 1000000 := by omega
  refine ⟨lt, ?_⟩
  have a := FI_lane (hlk (N - 1) (by omega)) (FI_all (g := g) hg hlk (N - 1) (by omega))
  rw [← hs] at a
  obtain ⟨a1, a2, a3, a4, a5⟩ := a
  generalize hS : (fun x : VX => (x = (0, 0) ∨ (x.1 < N - 1 ∧ P x.1 x.2)) ∨ (x.1 = N - 1 ∧ P (N - 1) x.2)) = S at a1 a2 a3 a4 a5
  have S0 : S (0, 0) := by rw [← hS]; exact Or.inl (Or.inl rfl)
  have SP : ∀ i p, i < N → P i p → S (i, p) := fun i p hi hp => by
    rw [← hS]
    by_cases e : i = N - 1
    · exact Or.inr ⟨e, by rw [← e]; exact hp⟩
    · exact Or.inl (Or.inr ⟨by dsimp only; omega, hp⟩)
  have close : ∃ v, WK L g v v S (min s.2.1 (min s.2.2.1 s.2.2.2.1)) := by
    have : min s.2.1 (min s.2.2.1 s.2.2.2.1) = s.2.1 ∨ min s.2.1 (min s.2.2.1 s.2.2.2.1) = s.2.2.1 ∨ min s.2.1 (min s.2.2.1 s.2.2.2.1) = s.2.2.2.1 := by omega
    rcases this with e | e | e <;> rw [e] at lt ⊢
    · exact ⟨_, a2 lt⟩
    · exact ⟨_, a3 lt⟩
    · obtain ⟨S1, S2, c1, c2, x, y, c, d⟩ := a4 lt
      exact ⟨_, WK_mono (WK_trans x y) d c⟩
  obtain ⟨v, l, l1, l2, l3, l4⟩ := close
  rcases l4 (0, 0) S0 with e | e
  · subst e
    exact ⟨l, l1, l2, l3, fun i p hi hp => l4 _ (SP i p hi hp)⟩
  · obtain ⟨A, B, rfl⟩ := List.append_of_mem e
    have w1 : we (0, 0) B = v := by rw [we_app] at l1; exact l1
    rw [wc_app] at l2
    refine ⟨B ++ (A ++ [(0, 0)]), ?_, ?_, fun x hx => l3 x ?_, fun i p hi hp => ?_⟩
    · rw [we_app, we_app]; rfl
    · rw [wc_app, w1, wc_app]
      have e1 : wc L g (we v A) ((0, 0) :: B) = dst L g (we v A) (0, 0) + wc L g (0, 0) B := rfl
      have e2 : wc L g (we v A) [(0, 0)] = dst L g (we v A) (0, 0) + 0 := rfl
      omega
    · simp only [List.mem_append, List.mem_cons] at hx ⊢
      rcases hx with h | h | h
      · exact Or.inr (Or.inr h)
      · exact Or.inl h
      · rcases h with h | h
        · exact Or.inr (Or.inl h)
        · exact absurd h (by simp)
    · rcases l4 _ (SP i p hi hp) with h | h
      · rcases we_mem (v := (0, 0)) B with y | y
        · left; rw [h, ← w1, y]
        · right; rw [h, ← w1]; exact List.mem_append.mpr (Or.inl y)
      · simp only [List.mem_append, List.mem_cons] at h ⊢
        rcases h with h | h | h
        · exact Or.inr (Or.inr (Or.inl h))
        · exact Or.inl h
        · exact Or.inr (Or.inl h)
/-! ===== the table of all sets of places ===== -/
theorem dst_self {L : Nat} {g : Int} {v : VX} : dst L g v v = 0 := by
  unfold dst
  rw [if_pos rfl, if_pos (Nat.le_refl _)]; omega
theorem dst_nn {L : Nat} {g : Int} {v w : VX} (hg : 0 ≤ g) (hv : v.2 ≤ L) (hw : w.2 ≤ L) : 0 ≤ dst L g v w := by
  unfold dst
  by_cases h : v.1 = w.1
  · rw [if_pos h]; split <;> omega
  · rw [if_neg h]
    have := Int.mul_nonneg hg (show 0 ≤ (if w.1 ≤ v.1 then (v.1 : Int) - w.1 else (w.1 : Int) - v.1) by split <;> omega)
    omega
theorem dst_tri {L : Nat} {g : Int} {v w z : VX} (hg : 0 ≤ g) (hv : v.2 ≤ L) (hw : w.2 ≤ L) (hz : z.2 ≤ L) : dst L g v z ≤ dst L g v w + dst L g w z := by
  obtain ⟨i, p⟩ := v
  obtain ⟨j, q⟩ := w
  obtain ⟨k, r⟩ := z
  dsimp only at hv hw hz
  unfold dst
  dsimp only
  have A : ∀ a b : Nat, 0 ≤ (if b ≤ a then (a : Int) - b else (b : Int) - a) := fun a b => by split <;> omega
  have D : (if k ≤ i then (i : Int) - k else (k : Int) - i) ≤ (if j ≤ i then (i : Int) - j else (j : Int) - i) + (if k ≤ j then (j : Int) - k else (k : Int) - j) := by split <;> split <;> split <;> omega
  have m := Int.mul_le_mul_of_nonneg_left D hg
  rw [Int.mul_add] at m
  have m1 := Int.mul_nonneg hg (A i j)
  have m2 := Int.mul_nonneg hg (A j k)
  have m3 := Int.mul_nonneg hg (A i k)
  have e1 : i = j → g * (if j ≤ i then (i : Int) - j else (j : Int) - i) = 0 := fun e => by subst e; rw [if_pos (Nat.le_refl _), Int.sub_self, Int.mul_zero]
  have e2 : j = k → g * (if k ≤ j then (j : Int) - k else (k : Int) - j) = 0 := fun e => by subst e; rw [if_pos (Nat.le_refl _), Int.sub_self, Int.mul_zero]
  generalize g * (if j ≤ i then (i : Int) - j else (j : Int) - i) = x at *
  generalize g * (if k ≤ j then (j : Int) - k else (k : Int) - j) = y at *
  generalize g * (if k ≤ i then (i : Int) - k else (k : Int) - i) = t at *
  clear D A
  have n1 : 0 ≤ (if q ≤ p then (p : Int) - q else (q : Int) - p) ∧ (p : Int) - q ≤ (if q ≤ p then (p : Int) - q else (q : Int) - p) ∧ (q : Int) - p ≤ (if q ≤ p then (p : Int) - q else (q : Int) - p) := by split <;> omega
  have n2 : 0 ≤ (if r ≤ q then (q : Int) - r else (r : Int) - q) ∧ (q : Int) - r ≤ (if r ≤ q then (q : Int) - r else (r : Int) - q) ∧ (r : Int) - q ≤ (if r ≤ q then (q : Int) - r else (r : Int) - q) := by split <;> omega
  have n3 : (if r ≤ p then (p : Int) - r else (r : Int) - p) = (p : Int) - r ∨ (if r ≤ p then (p : Int) - r else (r : Int) - p) = (r : Int) - p := by split <;> omega
  generalize (if q ≤ p then (p : Int) - q else (q : Int) - p) = a at *
  generalize (if r ≤ q then (q : Int) - r else (r : Int) - q) = b at *
  generalize (if r ≤ p then (p : Int) - r else (r : Int) - p) = c at *
  by_cases h1 : i = j
  · have := e1 h1
    rw [if_pos h1]
    by_cases h2 : j = k
    · rw [if_pos h2, if_pos (h1.trans h2)]; omega
    · rw [if_neg h2, if_neg (fun e => h2 (h1.symm.trans e))]; omega
  · rw [if_neg h1]
    by_cases h2 : j = k
    · have := e2 h2
      rw [if_pos h2, if_neg (fun e => h1 (e.trans h2.symm))]; omega
    · rw [if_neg h2]
      by_cases h3 : i = k
      · rw [if_pos h3]; omega
      · rw [if_neg h3]; omega
theorem dif_or {s k : Nat} (hs : s < 4294967296) (hk : k < 32) (h : s.testBit k = false) : dif (s ||| 2 ^ k) (2 ^ k) = s := by
  have h2 : s ||| 2 ^ k < 4294967296 := Nat.or_lt_two_pow (n := 32) hs (Nat.pow_lt_pow_right (by omega) hk)
  apply Nat.eq_of_testBit_eq
  intro i
  rw [dif_bit h2, Nat.testBit_or, p2_bit]
  by_cases e : k = i
  · subst e; rw [h]; simp
  · simp [e]
theorem all_bits {n s : Nat} (hs : s < 2 ^ n) (h : ∀ k, k < n → s.testBit k = true) : s = 2 ^ n - 1 := by
  apply Nat.eq_of_testBit_eq
  intro i
  rw [Nat.testBit_two_pow_sub_one]
  by_cases e : i < n
  · rw [h i e]; simp [e]
  · rw [Nat.testBit_lt_two_pow (Nat.lt_of_lt_of_le hs (Nat.pow_le_pow_right (by omega) (by omega)))]
    simp [e]
/-- what the table of sets holds -/
def HK (L n : Nat) (g : Int) (pt : Nat → VX) (T : Nat → Nat → Int) (best : Int) : Prop :=
  (∀ s last, s < 2 ^ n → last < n → s.testBit last = true → (dif s (2 ^ last) = 0 → T s last ≤ dst L g (0, 0) (pt last)) ∧ ∀ k, k < n → (dif s (2 ^ last)).testBit k = true → T s last ≤ T (dif s (2 ^ last)) k + dst L g (pt k) (pt last)) ∧
  (∀ s last, s < 2 ^ n → last < n → s.testBit last = true → T s last < 1000000000 → (dif s (2 ^ last) = 0 ∧ T s last = dst L g (0, 0) (pt last)) ∨ ∃ k, k < n ∧ (dif s (2 ^ last)).testBit k = true ∧ T s last = T (dif s (2 ^ last)) k + dst L g (pt k) (pt last)) ∧
  (∀ last, last < n → best ≤ T (2 ^ n - 1) last + dst L g (pt last) (0, 0)) ∧ (best < 1000000000 → ∃ last, last < n ∧ best = T (2 ^ n - 1) last + dst L g (pt last) (0, 0))
theorem hk_up {L n : Nat} {g : Int} {pt : Nat → VX} {T : Nat → Nat → Int} {best : Int} (hg : 0 ≤ g) (hn : 1 ≤ n) (hn2 : n ≤ 10) (hp : ∀ k, k < n → (pt k).2 ≤ L) (inj : ∀ j k, j < n → k < n → pt j = pt k → j = k) (h : HK L n g pt T best) {l : List VX} (he : we (0, 0) l = (0, 0)) (hl : ∀ x, x ∈ l → x.2 ≤ L) (hc : ∀ k, k < n → pt k ∈ l) : best ≤ wc L g (0, 0) l := by
  obtain ⟨h1, -, h3, -⟩ := h
  have two : 2 ^ n ≤ 1024 := Nat.pow_le_pow_right (n := 2) (by decide) hn2
  have run : ∀ (l : List VX) (v : VX) (s : Nat) (c : Int), v.2 ≤ L → (∀ x, x ∈ l → x.2 ≤ L) → s < 2 ^ n → ((s = 0 ∧ dst L g (0, 0) v ≤ c) ∨ ∃ last, last < n ∧ s.testBit last = true ∧ T s last + dst L g (pt last) v ≤ c) →
      ∃ s', s' < 2 ^ n ∧ ((s' = 0 ∧ dst L g (0, 0) (we v l) ≤ c + wc L g v l) ∨ ∃ last, last < n ∧ s'.testBit last = true ∧ T s' last + dst L g (pt last) (we v l) ≤ c + wc L g v l) ∧ (∀ k, s.testBit k = true → s'.testBit k = true) ∧ ∀ k, k < n → pt k ∈ l → s'.testBit k = true := by
    intro l
    induction l with
    | nil =>
      intro v s c hv _ hs hI
      refine ⟨s, hs, ?_, fun k hk => hk, fun k _ hk => absurd hk (by simp)⟩
      show (s = 0 ∧ dst L g (0, 0) v ≤ c + 0) ∨ ∃ last, last < n ∧ s.testBit last = true ∧ T s last + dst L g (pt last) v ≤ c + 0
      rw [Int.add_zero]; exact hI
    | cons x l ih =>
      intro v s c hv hl hs hI
      have hx : x.2 ≤ L := hl x (by simp)
      have go : ∀ s1, s1 < 2 ^ n → (∀ k, s.testBit k = true → s1.testBit k = true) → (∀ k, k < n → pt k = x → s1.testBit k = true) → ((s1 = 0 ∧ dst L g (0, 0) x ≤ c + dst L g v x) ∨ ∃ last, last < n ∧ s1.testBit last = true ∧ T s1 last + dst L g (pt last) x ≤ c + dst L g v x) →
          ∃ s', s' < 2 ^ n ∧ ((s' = 0 ∧ dst L g (0, 0) (we v (x :: l)) ≤ c + wc L g v (x :: l)) ∨ ∃ last, last < n ∧ s'.testBit last = true ∧ T s' last + dst L g (pt last) (we v (x :: l)) ≤ c + wc L g v (x :: l)) ∧ (∀ k, s.testBit k = true → s'.testBit k = true) ∧ ∀ k, k < n → pt k ∈ x :: l → s'.testBit k = true := fun s1 a1 a2 a3 a4 => by
        obtain ⟨s', b1, b2, b3, b4⟩ := ih x s1 (c + dst L g v x) hx (fun y hy => hl y (by simp [hy])) a1 a4
        refine ⟨s', b1, ?_, fun k hk => b3 k (a2 k hk), fun k hk hm => ?_⟩
        · have e : wc L g v (x :: l) = dst L g v x + wc L g x l := rfl
          have e2 : we v (x :: l) = we x l := rfl
          rw [e, e2, ← Int.add_assoc]; exact b2
        · rcases List.mem_cons.mp hm with y | y
          · exact b3 k (a3 k hk y)
          · exact b4 k hk y
      by_cases hk : ∃ k, k < n ∧ pt k = x ∧ s.testBit k = false
      · obtain ⟨k, k1, k2, k3⟩ := hk
        have s32 : s < 4294967296 := by omega
        have dd := dif_or s32 (show k < 32 by omega) k3
        have bk : (s ||| 2 ^ k).testBit k = true := by rw [Nat.testBit_or, p2_bit]; simp
        have lt : s ||| 2 ^ k < 2 ^ n := Nat.or_lt_two_pow hs (Nat.pow_lt_pow_right (by omega) k1)
        refine go (s ||| 2 ^ k) lt (fun j hj => by rw [Nat.testBit_or, hj]; simp) (fun j hj hh => ?_) (Or.inr ⟨k, k1, bk, ?_⟩)
        · rw [inj j k hj k1 (by rw [hh, k2])]; exact bk
        · obtain ⟨u1, u2⟩ := h1 _ k lt k1 bk
          rw [dd] at u1 u2
          rw [← k2, dst_self]
          have tri : ∀ y : VX, y.2 ≤ L → dst L g y (pt k) ≤ dst L g y v + dst L g v (pt k) := fun y hy => dst_tri hg hy hv (hp k k1)
          rcases hI with ⟨i1, i2⟩ | ⟨last, i1, i2, i3⟩
          · have := u1 i1
            have := tri (0, 0) (Nat.zero_le _)
            omega
          · have := u2 last i1 i2
            have := tri (pt last) (hp last i1)
            omega
      · refine go s hs (fun _ h => h) (fun k k1 k2 => ?_) ?_
        · cases hb : s.testBit k with
          | true => rfl
          | false => exact absurd ⟨k, k1, k2, hb⟩ hk
        · rcases hI with ⟨i1, i2⟩ | ⟨last, i1, i2, i3⟩
          · left
            have := dst_tri (L := L) (g := g) (v := (0, 0)) (w := v) (z := x) hg (Nat.zero_le _) hv hx
            exact ⟨i1, by omega⟩
          · right
            have := dst_tri (L := L) (g := g) (v := pt last) (w := v) (z := x) hg (hp last i1) hv hx
            exact ⟨last, i1, i2, by omega⟩
  obtain ⟨s', a1, a2, -, a4⟩ := run l (0, 0) 0 0 (Nat.zero_le _) hl (Nat.two_pow_pos n) (Or.inl ⟨rfl, by rw [dst_self]; exact Int.le_refl _⟩)
  have all := all_bits a1 (fun k hk => a4 k hk (hc k hk))
  rw [he, Int.zero_add] at a2
  rcases a2 with ⟨b1, -⟩ | ⟨last, b1, b2, b3⟩
  · have := a4 0 (by omega) (hc 0 (by omega))
    rw [b1] at this
    simp at this
  · rw [all] at b3
    have := h3 last b1
    omega
theorem hk_low {L n : Nat} {g : Int} {pt : Nat → VX} {T : Nat → Nat → Int} {best : Int} (hg : 0 ≤ g) (hn2 : n ≤ 10) (hp : ∀ k, k < n → (pt k).2 ≤ L) (h : HK L n g pt T best) (hb : best < 1000000000) : ∃ l : List VX, we (0, 0) l = (0, 0) ∧ wc L g (0, 0) l = best ∧ (∀ x, x ∈ l → x = (0, 0) ∨ ∃ k, k < n ∧ x = pt k) ∧ ∀ k, k < n → pt k ∈ l := by
  obtain ⟨-, h2, -, h4⟩ := h
  have two : 2 ^ n ≤ 1024 := Nat.pow_le_pow_right (n := 2) (by decide) hn2
  have run : ∀ m s : Nat, s ≤ m → ∀ last, s < 2 ^ n → last < n → s.testBit last = true → T s last < 1000000000 → ∃ l : List VX, we (0, 0) l = pt last ∧ wc L g (0, 0) l = T s last ∧ (∀ x, x ∈ l → ∃ k, k < n ∧ x = pt k) ∧ ∀ k, s.testBit k = true → pt k ∈ l := by
    intro m
    induction m with
    | zero =>
      intro s hs last _ _ hb _
      rw [show s = 0 by omega] at hb
      simp at hb
    | succ m ih =>
      intro s hs last s2 l1 hb hT
      have s32 : s < 4294967296 := by omega
      have bits : ∀ k, s.testBit k = true → k = last ∨ (dif s (2 ^ last)).testBit k = true := fun k hk => by
        by_cases e : k = last
        · exact Or.inl e
        · right
          rw [dif_bit s32, hk, p2_bit]
          simp [show ¬ last = k from fun z => e z.symm]
      rcases h2 s last s2 l1 hb hT with ⟨e1, e2⟩ | ⟨k, k1, k2, k3⟩
      · refine ⟨[pt last], rfl, ?_, fun x hx => ⟨last, l1, List.mem_singleton.mp hx⟩, fun k hk => ?_⟩
        · show dst L g (0, 0) (pt last) + 0 = _; rw [e2]; omega
        · rcases bits k hk with y | y
          · rw [y]; simp
          · rw [e1] at y; simp at y
      · have lt := dif_lt s32 (p2_sub hb) (p2_ne last)
        have := dst_nn hg (hp k k1) (hp last l1)
        obtain ⟨l, a1, a2, a3, a4⟩ := ih (dif s (2 ^ last)) (by omega) k (by omega) k1 k2 (by omega)
        refine ⟨l ++ [pt last], ?_, ?_, fun x hx => ?_, fun j hj => ?_⟩
        · rw [we_app]; rfl
        · rw [wc_app, a1, a2, k3]
          show _ + (dst L g (pt k) (pt last) + 0) = _
          omega
        · rcases List.mem_append.mp hx with y | y
          · exact a3 x y
          · exact ⟨last, l1, List.mem_singleton.mp y⟩
        · rcases bits j hj with y | y
          · rw [y]; simp
          · exact List.mem_append.mpr (Or.inl (a4 j y))
  obtain ⟨last, l1, l2⟩ := h4 hb
  have b1 : ∀ k, k < n → (2 ^ n - 1).testBit k = true := fun k hk => by rw [Nat.testBit_two_pow_sub_one]; simp [hk]
  have := dst_nn (L := L) (g := g) (v := pt last) (w := (0, 0)) hg (hp last l1) (Nat.zero_le _)
  have tp := Nat.two_pow_pos n
  obtain ⟨l, a1, a2, a3, a4⟩ := run (2 ^ n) (2 ^ n - 1) (by omega) last (by omega) l1 (b1 last l1) (by omega)
  refine ⟨l ++ [(0, 0)], ?_, ?_, fun x hx => ?_, fun k hk => List.mem_append.mpr (Or.inl (a4 k (b1 k hk)))⟩
  · rw [we_app]; rfl
  · rw [wc_app, a1, a2, l2]
    show _ + (dst L g (pt last) (0, 0) + 0) = _
    omega
  · rcases List.mem_append.mp hx with y | y
    · exact Or.inr (a3 x y)
    · exact Or.inl (List.mem_singleton.mp y)
/-- both least ways are one -/
theorem least_way {L N n : Nat} {g best : Int} {P : Nat → Nat → Prop} {lk : Nat → Int × Int × Int} {pt : Nat → VX} {T : Nat → Nat → Int} (hL : 2 ≤ L) (hL9 : L ≤ 9) (hg : 0 ≤ g) (hg5 : g ≤ 5) (hN : 0 < N) (hN6 : N ≤ 6) (hn : 1 ≤ n) (hn2 : n ≤ 10) (hlk : ∀ i, i < N → LK L (P i) (lk i).1 (lk i).2.1 (lk i).2.2) (hlast : ∃ p, P (N - 1) p)
    (hpt : ∀ k, k < n → (pt k).1 < N ∧ P (pt k).1 (pt k).2) (hall : ∀ i p, i < N → P i p → ∃ k, k < n ∧ pt k = (i, p)) (inj : ∀ j k, j < n → k < n → pt j = pt k → j = k) (h : HK L n g pt T best) :
    ∀ s, s = wlk L (lk (N - 1)).1 (lk (N - 1)).2.1 (lk (N - 1)).2.2 (wst L g lk (N - 1)) → best = min s.2.1 (min s.2.2.1 s.2.2.2.1) := by
  intro s hs
  have pr : ∀ i p, i < N → P i p → 1 ≤ p ∧ p < L := fun i p hi hp => by
    rcases hlk i hi with ⟨-, k⟩ | ⟨-, k, -⟩
    · exact absurd hp (k p)
    · have := k p hp; exact ⟨this.1, this.2.1⟩
  have pl : ∀ k, k < n → (pt k).2 ≤ L := fun k hk => by
    obtain ⟨a, b⟩ := hpt k hk
    have := pr _ _ a b
    omega
  obtain ⟨v1, l, l1, l2, l3, l4⟩ := walk_le hg hg5 hL9 hN hN6 hlk s hs
  have up := hk_up hg hn hn2 pl inj h l1 l3 (fun k hk => by
    obtain ⟨a, b⟩ := hpt k hk
    rcases l4 _ _ a b with e | e
    · have := pr _ _ a b
      have e2 : (pt k).2 = 0 := congrArg Prod.snd e
      omega
    · exact e)
  obtain ⟨m, m1, m2, m3, m4⟩ := hk_low hg hn2 pl h (by omega)
  have lo := tour_ge hL hN hg hlk (l := m) (fun x hx => by
    rcases m3 x hx with e | ⟨k, k1, k2⟩
    · rw [e]; exact ⟨hN, Nat.zero_le _⟩
    · rw [k2]; exact ⟨(hpt k k1).1, pl k k1⟩) m1 (fun i p hi hp => by
    obtain ⟨k, k1, k2⟩ := hall i p hi hp
    rw [← k2]; exact m4 k k1) hlast s hs
  omega
