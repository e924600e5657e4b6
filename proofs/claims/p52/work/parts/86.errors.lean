/-! ===== the best acts are those by the bounds ===== -/
/-- convex but for K, on a stretch -/
def KC (K lo hi : Int) (G : Int → Int) : Prop := ∀ a b c, lo ≤ a → a < b → b < c → c ≤ hi → (b - a) * G b + (c - b) * (G b - G a) ≤ (b - a) * (K + G c)
theorem KC_mono {K lo lo' hi : Int} {G : Int → Int} (h : KC K lo hi G) (hl : lo ≤ lo') : KC K lo' hi G := fun a b c h1 h2 h3 h4 => h a b c (by omega) h2 h3 h4
theorem KC_add {K K' lo hi : Int} {G G' : Int → Int} (h : KC K lo hi G) (h' : KC K' lo hi G') : KC (K + K') lo hi (fun y => G y + G' y) := by
  intro a b c h1 h2 h3 h4
  have u := h a b c h1 h2 h3 h4
  have v := h' a b c h1 h2 h3 h4
  have e1 : (b - a) * (G b + G' b) = (b - a) * G b + (b - a) * G' b := Int.mul_add _ _ _
  have e2 : (c - b) * (G b + G' b - (G a + G' a)) = (c - b) * (G b - G a) + (c - b) * (G' b - G' a) := by rw [← Int.mul_add]; congr 1; omega
  have e3 : (b - a) * (K + K' + (G c + G' c)) = (b - a) * (K + G c) + (b - a) * (K' + G' c) := by rw [← Int.mul_add]; congr 1; omega
  dsimp only
  omega
theorem KC_lin {lo hi m : Int} : KC 0 lo hi (fun y => m * y) := by
  intro a b c h1 h2 h3 h4
  have e0 : m * b - m * a = m * (b - a) := (Int.mul_sub _ _ _).symm
  have e1 : (c - b) * (m * (b - a)) = (b - a) * (m * (c - b)) := by
    rw [Int.mul_left_comm, Int.mul_comm (c - b) (b - a), ← Int.mul_assoc, ← Int.mul_assoc, Int.mul_comm m]
  have e2 : (b - a) * (0 + m * c) = (b - a) * (m * b) + (b - a) * (m * (c - b)) := by rw [← Int.mul_add, ← Int.mul_add]; congr 1; rw [Int.zero_add]; congr 1; omega
  dsimp only
  rw [e0, e1, e2]
  exact Int.le_refl _
theorem KC_mul {K lo hi w : Int} {G : Int → Int} (hw : 0 ≤ w) (h : KC K lo hi G) : KC (w * K) lo hi (fun y => w * G y) := by
  intro a b c h1 h2 h3 h4
  have u := Int.mul_le_mul_of_nonneg_left (h a b c h1 h2 h3 h4) hw
  have e1 : (b - a) * (w * G b) = w * ((b - a) * G b) := Int.mul_left_comm _ _ _
  have e2 : (c - b) * (w * G b - w * G a) = w * ((c - b) * (G b - G a)) := by rw [← Int.mul_sub, Int.mul_left_comm]
  have e3 : (b - a) * (w * K + w * G c) = w * ((b - a) * (K + G c)) := by rw [← Int.mul_add, Int.mul_left_comm]
  dsimp only
  rw [e1, e2, e3, ← Int.mul_add]
  exact u
theorem KC_shift {K lo hi i : Int} {G : Int → Int} (h : KC K lo hi G) (hi0 : 0 ≤ i) : KC K (lo + i) hi (fun y => G (y - i)) := by
  intro a b c h1 h2 h3 h4
  have u := h (a - i) (b - i) (c - i) (by omega) (by omega) (by omega) (by omega)
  rw [show b - i - (a - i) = b - a by omega, show c - i - (b - i) = c - b by omega] at u
  exact u
theorem KC_pay {t : Nat → Int} (h : TT t) {lo hi : Int} : KC 0 lo hi (pay t) := by
  obtain ⟨-, -, -, -, h6, -, h7, -, h8, -, -, -⟩ := h
  intro a b c h1 h2 h3 h4
  have x1 : 0 ≤ t 7 := h7
  have x2 : 0 ≤ t 8 := by omega
  -- the slope on the right is at least that on the left
  have key : ∀ m : Int, (pay t b - pay t a ≤ m * (b - a)) → (m * (c - b) ≤ pay t c - pay t b) → (b - a) * pay t b + (c - b) * (pay t b - pay t a) ≤ (b - a) * (0 + pay t c) := fun m y1 y2 => by
    have z1 := Int.mul_le_mul_of_nonneg_left y1 (show 0 ≤ c - b by omega)
    have z2 := Int.mul_le_mul_of_nonneg_left y2 (show 0 ≤ b - a by omega)
    have e1 : (c - b) * (m * (b - a)) = (b - a) * (m * (c - b)) := by
      rw [Int.mul_left_comm, Int.mul_comm (c - b) (b - a), ← Int.mul_assoc, ← Int.mul_assoc, Int.mul_comm m]
    have e2 : (b - a) * (0 + pay t c) = (b - a) * pay t b + (b - a) * (pay t c - pay t b) := by rw [← Int.mul_add]; congr 1; omega
    omega
  by_cases hb : 0 < b
  · refine key (t 7) ?_ ?_
    · unfold pay
      rw [if_pos hb, Int.mul_sub]
      by_cases ha : 0 < a
      · rw [if_pos ha]; omega
      · rw [if_neg ha]
        have := Int.mul_nonneg x2 (show 0 ≤ -a by omega)
        have : t 7 * a ≤ 0 := Int.mul_nonpos_of_nonneg_of_nonpos x1 (by omega)
        omega
    · unfold pay
      rw [if_pos hb, if_pos (show 0 < c by omega), Int.mul_sub]
      omega
  · refine key (- t 8) ?_ ?_
    · unfold pay
      rw [if_neg hb, if_neg (show ¬ 0 < a by omega), Int.neg_mul, Int.mul_sub, Int.mul_neg, Int.mul_neg]
      omega
    · unfold pay
      rw [if_neg hb, Int.neg_mul, Int.mul_sub, Int.mul_neg]
      by_cases hc : 0 < c
      · rw [if_pos hc]
        have := Int.mul_nonneg x1 (show 0 ≤ c by omega)
        have := Int.mul_nonneg x2 (show 0 ≤ c by omega)
        have : t 8 * -b = -(t 8 * b) := Int.mul_neg _ _
        omega
      · rw [if_neg hc, Int.mul_neg]
        omega
theorem KC_wsum {t : Nat → Int} {K lo hi : Int} {g : Nat → Int → Int} (h0 : ∀ i, i < 5 → 0 ≤ t i) (h : ∀ i, i < 5 → KC K lo hi (g i)) : ∀ j : Nat, j ≤ 5 → KC (wsum t (fun _ => K) j) lo hi (fun y => wsum t (fun i => g i y) j) := by
  intro j
  induction j with
  | zero => intro _ a b c _ _ _ _; simp [wsum]
  | succ j ih =>
    intro hj
    exact KC_add (ih (by omega)) (KC_mul (h0 j (by omega)) (h j (by omega)))
/-- what follows of it: S the least best level -/
theorem ss_facts {K lo hi S : Int} {G : Int → Int} (hK : 0 ≤ K) (h : KC K lo hi G) (hS : LA G lo hi S) :
    (∀ y z, S ≤ y → y < z → z ≤ hi → G y ≤ K + G z) ∧ (∀ a b, lo ≤ a → a < b → b < S → G a ≤ K + G S → G b ≤ K + G S) := by
  obtain ⟨s1, s2, s3⟩ := hS
  have mn : ∀ x, lo ≤ x → x ≤ hi → G S ≤ G x := fun x x0 x1 => by have := s3 x x0 x1; omega
  refine ⟨fun y z y1 y2 y3 => ?_, fun a b a1 a2 a3 a4 => ?_⟩
  · by_cases e : y = S
    · have := mn z (by omega) y3
      rw [e]; omega
    · have u := h S y z s1 (by omega) y2 y3
      have v := Int.mul_nonneg (show 0 ≤ z - y by omega) (show 0 ≤ G y - G S by have := mn y (by omega) (by omega); omega)
      have w : (y - S) * G y ≤ (y - S) * (K + G z) := by omega
      exact Int.le_of_mul_le_mul_left w (by omega)
  · apply Classical.byContradiction
    intro hn
    have u := h a b S a1 a2 a3 s2
    have v := Int.mul_nonneg (show 0 ≤ S - b by omega) (show 0 ≤ G b - G a by omega)
    have w : (b - a) * G b ≤ (b - a) * (K + G S) := by omega
    exact hn (Int.le_of_mul_le_mul_left w (by omega))
/-- after the best act the cost is convex but for K again -/
theorem KC_best {K lo hi S : Int} {G H : Int → Int} {o : Int → Prop} (hK : 0 ≤ K) (h : KC K lo hi G) (hS : LA G lo hi S) (ho : ∀ y, lo ≤ y → y ≤ hi → (o y ↔ y < S ∧ K + G S < G y))
    (h1 : ∀ y, lo ≤ y → y ≤ hi → o y → H y = K + G S) (h2 : ∀ y, lo ≤ y → y ≤ hi → ¬ o y → H y = G y) : KC K lo hi H := by
  obtain ⟨f1, f2⟩ := ss_facts hK h hS
  obtain ⟨s1, s2, s3⟩ := hS
  have mn : ∀ x, lo ≤ x → x ≤ hi → G S ≤ G x := fun x x0 x1 => by have := s3 x x0 x1; omega
  have up : ∀ a b, lo ≤ a → a < b → b ≤ hi → o b → o a := fun a b a1 a2 a3 a4 => by
    have z := (ho b (by omega) a3).mp a4
    refine (ho a a1 (by omega)).mpr ⟨by omega, ?_⟩
    apply Classical.byContradiction
    intro y
    have := f2 a b a1 a2 z.1 (by omega)
    omega
  intro a b c a1 a2 a3 a4
  by_cases oa : o a
  · have oa' := (ho a a1 (by omega)).mp oa
    rw [h1 a a1 (by omega) oa]
    by_cases ob : o b
    · rw [h1 b (by omega) (by omega) ob, Int.sub_self, Int.mul_zero, Int.add_zero]
      refine Int.mul_le_mul_of_nonneg_left ?_ (by omega)
      by_cases oc : o c
      · rw [h1 c (by omega) a4 oc]; omega
      · rw [h2 c (by omega) a4 oc]
        have := mn c (by omega) a4
        omega
    · have oc : ¬ o c := fun z => ob (up b c (by omega) a3 a4 z)
      rw [h2 b (by omega) (by omega) ob, h2 c (by omega) a4 oc]
      have gc := mn c (by omega) a4
      by_cases e : G b ≤ K + G S
      · have v := Int.mul_le_mul_of_nonneg_left (show G b - (K + G S) ≤ 0 by omega) (show 0 ≤ c - b by omega)
        have w := Int.mul_le_mul_of_nonneg_left (show G b ≤ K + G c by omega) (show 0 ≤ b - a by omega)
        rw [Int.mul_zero] at v
        omega
      · have bS : S < b := by
          apply Classical.byContradiction
          intro z
          by_cases z2 : b = S
          · rw [z2] at e; omega
          · exact ob ((ho b (by omega) (by omega)).mpr ⟨by omega, by omega⟩)
        have u := h S b c s1 bS a3 a4
        have g0 : 0 ≤ (c - b) * (G b - G S) := Int.mul_nonneg (by omega) (by omega)
        have X0 : 0 ≤ K + G c - G b := by
          have w : (b - S) * G b ≤ (b - S) * (K + G c) := by omega
          have := Int.le_of_mul_le_mul_left w (show 0 < b - S by omega)
          omega
        have X1 : (b - S) * (K + G c - G b) ≤ (b - a) * (K + G c - G b) := Int.mul_le_mul_of_nonneg_right (by omega) X0
        have X2 : (c - b) * (G b - (K + G S)) ≤ (c - b) * (G b - G S) := Int.mul_le_mul_of_nonneg_left (by omega) (by omega)
        rw [Int.mul_sub] at X1
        have X3 : (b - a) * (K + G c - G b) = (b - a) * (K + G c) - (b - a) * G b := Int.mul_sub _ _ _
        omega
  · have ob : ¬ o b := fun z => oa (up a b a1 a2 (by omega) z)
    have oc : ¬ o c := fun z => ob (up b c (by omega) a3 a4 z)
    rw [h2 a a1 (by omega) oa, h2 b (by omega) (by omega) ob, h2 c (by omega) a4 oc]
    exact h a b c a1 a2 a3 a4
theorem ws_add {t g h : Nat → Int} {x : Int} : ∀ j : Nat, wsum t (fun i => g i * x + h i) j = wsum t g j * x + wsum t h j := by
  intro j
  induction j with
  | zero => simp [wsum]
  | succ j ih =>
    unfold wsum
    rw [ih, Int.mul_add, Int.add_mul, Int.mul_assoc]
    omega
theorem ws_const {t : Nat → Int} {K : Int} : wsum t (fun _ => K) 5 = K * sw t := by
  simp only [wsum, sw, Int.mul_comm K, Int.add_mul]
  omega
theorem KC_plan {t : Nat → Int} (h : TT t) : ∀ n : Nat, n ≤ 5 → KC (t 5 * Sc t n) (lw n) (t 9) (pl t n) ∧ (n < 5 → KC (t 5 * Sc t (n + 1)) (lw (n + 1)) (t 9) (Gg t n (pl t n))) := by
  have hh := h
  obtain ⟨h1, -, h5, -, h6, -, -, -, -, -, c0, c1⟩ := hh
  have Gn : ∀ n : Nat, n < 5 → KC (t 5 * Sc t n) (lw n) (t 9) (pl t n) → KC (t 5 * Sc t (n + 1)) (lw (n + 1)) (t 9) (Gg t n (pl t n)) := fun n hn hp => by
    have sc := Sc_le h (n := n) (by omega)
    have term : ∀ i : Nat, i < 5 → KC (t 5 * Sc t n) (lw (n + 1)) (t 9) (fun y => pay t (y - i) * Sc t n + pl t n (y - i)) := fun i hi => by
      have a1 := KC_mono (KC_shift (i := (i : Int)) hp (by omega)) (show lw n + i ≤ lw (n + 1) by unfold lw; omega)
      have a2 : KC 0 (lw (n + 1)) (t 9) (fun y => Sc t n * pay t (y - i)) := by
        have b1 := KC_mono (KC_shift (i := (i : Int)) (KC_pay h (lo := lw n) (hi := t 9)) (by omega)) (show lw n + i ≤ lw (n + 1) by unfold lw; omega)
        have b2 := KC_mul (w := Sc t n) (by omega) b1
        rw [Int.mul_zero] at b2
        exact b2
      have a3 := KC_add a2 a1
      rw [Int.zero_add] at a3
      intro a b c y1 y2 y3 y4
      have := a3 a b c y1 y2 y3 y4
      dsimp only at this ⊢
      rw [Int.mul_comm (pay t (a - i)), Int.mul_comm (pay t (b - i)), Int.mul_comm (pay t (c - i))]
      exact this
    have s := KC_wsum (t := t) (fun i hi => (h1 i hi).1) term 5 (Nat.le_refl _)
    rw [ws_const] at s
    have l := KC_lin (lo := lw (n + 1)) (hi := t 9) (m := t 6 * Sc t (n + 1))
    have f := KC_add s l
    rw [Int.add_zero, Int.mul_assoc] at f
    exact f
  intro n
  induction n with
  | zero =>
    intro _
    have p0 : KC (t 5 * Sc t 0) (lw 0) (t 9) (pl t 0) := by
      intro a b c y1 y2 y3 y4
      have := Int.mul_nonneg (show 0 ≤ b - a by omega) h5
      simp only [pl, Sc]
      simp
      exact this
    exact ⟨p0, fun hn => Gn 0 hn p0⟩
  | succ n ih =>
    intro hn
    obtain ⟨q1, q2⟩ := ih (by omega)
    have g := q2 (by omega)
    have sc := Sc_le h (n := n + 1) (by omega)
    have hK : 0 ≤ t 5 * Sc t (n + 1) := Int.mul_nonneg h5 (by omega)
    have l1 : lw (n + 1) ≤ t 9 := by unfold lw; omega
    have LS := tg_LA (G := Gg t n (pl t n)) (cap := t 9) (t 9 - lw (n + 1)).toNat
    rw [show t 9 - ((t 9 - lw (n + 1)).toNat : Int) = lw (n + 1) by omega] at LS
    generalize hS : tg (Gg t n (pl t n)) (t 9) (t 9 - lw (n + 1)).toNat = S at LS
    obtain ⟨f1, f2⟩ := ss_facts hK g LS
    have best : ∀ y, y < t 9 → LA (Gg t n (pl t n)) (y + 1) (t 9) (tg (Gg t n (pl t n)) (t 9) (t 9 - y - 1).toNat) := fun y hy => by
      have := tg_LA (G := Gg t n (pl t n)) (cap := t 9) (t 9 - y - 1).toNat
      rwa [show t 9 - ((t 9 - y - 1).toNat : Int) = y + 1 by omega] at this
    have oi : ∀ y, lw (n + 1) ≤ y → y ≤ t 9 → (isO t n (pl t n) y ↔ y < S ∧ t 5 * Sc t (n + 1) + Gg t n (pl t n) S < Gg t n (pl t n) y) := fun y y0 y1 => by
      constructor
      · rintro ⟨z1, z2⟩
        have b := best y z1
        have yS : y < S := by
          apply Classical.byContradiction
          intro w
          have := f1 y _ (by omega) (show y < tg (Gg t n (pl t n)) (t 9) (t 9 - y - 1).toNat by have := b.1; omega) b.2.1
          unfold orI at z2
          unfold Gg at this z2
          omega
        have e : tg (Gg t n (pl t n)) (t 9) (t 9 - y - 1).toNat = S := LA_uniq b ⟨by omega, LS.2.1, fun x x0 x1 => LS.2.2 x (by omega) x1⟩
        refine ⟨yS, ?_⟩
        unfold orI at z2
        rw [e] at z2
        have : Gg t n (pl t n) y = stI t n (pl t n) y + t 6 * Sc t (n + 1) * y := rfl
        omega
      · rintro ⟨z1, z2⟩
        have y9 : y < t 9 := by have := LS.2.1; omega
        refine ⟨y9, ?_⟩
        have e : tg (Gg t n (pl t n)) (t 9) (t 9 - y - 1).toNat = S := LA_uniq (best y y9) ⟨by omega, LS.2.1, fun x x0 x1 => LS.2.2 x (by omega) x1⟩
        unfold orI
        rw [e]
        have : Gg t n (pl t n) y = stI t n (pl t n) y + t 6 * Sc t (n + 1) * y := rfl
        omega
    have P : KC (t 5 * Sc t (n + 1)) (lw (n + 1)) (t 9) (fun y => pl t (n + 1) y + t 6 * Sc t (n + 1) * y) := by
      refine KC_best hK g LS oi (fun y y0 y1 yo => ?_) (fun y y0 y1 yo => ?_)
      · have y9 := yo.1
        have z := (oi y y0 y1).mp yo
        have e : tg (Gg t n (pl t n)) (t 9) (t 9 - y - 1).toNat = S := LA_uniq (best y y9) ⟨by omega, LS.2.1, fun x x0 x1 => LS.2.2 x (by omega) x1⟩
        show (if isO t n (pl t n) y then orI t n (pl t n) y else stI t n (pl t n) y) + _ = _
        rw [if_pos yo]
        unfold orI
        rw [e]
        omega
      · show (if isO t n (pl t n) y then orI t n (pl t n) y else stI t n (pl t n) y) + _ = _
        rw [if_neg yo]
        rfl
    have P2 : KC (t 5 * Sc t (n + 1)) (lw (n + 1)) (t 9) (pl t (n + 1)) := by
      have l := KC_lin (lo := lw (n + 1)) (hi := t 9) (m := - (t 6 * Sc t (n + 1)))
      have f := KC_add P l
      rw [Int.add_zero] at f
      intro a b c y1 y2 y3 y4
      have z := f a b c y1 y2 y3 y4
      dsimp only at z
      have e : ∀ y : Int, pl t (n + 1) y + t 6 * Sc t (n + 1) * y + -(t 6 * Sc t (n + 1)) * y = pl t (n + 1) y := fun y => by
        rw [Int.neg_mul]
        omega
      rw [e, e, e] at z
      exact z
    exact ⟨P2, fun h5 => Gn (n + 1) h5 P2⟩
/-- by the bounds -/
theorem by_bounds {t : Nat → Int} (h : TT t) {n : Nat} (hn : n < 5) {lo y : Int} (hl : LW t n (-20) lo) (y0 : -20 ≤ y) (y1 : y ≤ t 9) : ac t n y = if y < lo then tg (Gg t n (pl t n)) (t 9) (t 9 + 20).toNat else y := by
  have hh := h
  obtain ⟨h1, -, h5, -, h6, -, -, -, -, -, c0, c1⟩ := hh
  have lk : lw (n + 1) ≤ -20 := by unfold lw; omega
  have g := KC_mono ((KC_plan h n (by omega)).2 hn) lk
  have sc := Sc_le h (n := n + 1) (by omega)
  have hK : 0 ≤ t 5 * Sc t (n + 1) := Int.mul_nonneg h5 (by omega)
  have LS := tg_LA (G := Gg t n (pl t n)) (cap := t 9) (t 9 + 20).toNat
  rw [show t 9 - ((t 9 + 20).toNat : Int) = -20 by omega] at LS
  generalize hS : tg (Gg t n (pl t n)) (t 9) (t 9 + 20).toNat = S at LS
  obtain ⟨f1, f2⟩ := ss_facts hK g LS
  have best : ∀ y, y < t 9 → LA (Gg t n (pl t n)) (y + 1) (t 9) (tg (Gg t n (pl t n)) (t 9) (t 9 - y - 1).toNat) := fun y hy => by
    have := tg_LA (G := Gg t n (pl t n)) (cap := t 9) (t 9 - y - 1).toNat
    rwa [show t 9 - ((t 9 - y - 1).toNat : Int) = y + 1 by omega] at this
  have gy : ∀ y, Gg t n (pl t n) y = stI t n (pl t n) y + t 6 * Sc t (n + 1) * y := fun _ => rfl
  have o1 : ∀ y, -20 ≤ y → y ≤ t 9 → isO t n (pl t n) y → y < S ∧ tg (Gg t n (pl t n)) (t 9) (t 9 - y - 1).toNat = S ∧ t 5 * Sc t (n + 1) + Gg t n (pl t n) S < Gg t n (pl t n) y := fun y y0 y1 yo => by
    obtain ⟨z1, z2⟩ := yo
    have b := best y z1
    have yS : y < S := by
      apply Classical.byContradiction
      intro w
      have := f1 y _ (by omega) (show y < tg (Gg t n (pl t n)) (t 9) (t 9 - y - 1).toNat by have := b.1; omega) b.2.1
      have := gy y
      unfold orI at z2
      omega
    have e : tg (Gg t n (pl t n)) (t 9) (t 9 - y - 1).toNat = S := LA_uniq b ⟨by omega, LS.2.1, fun x x0 x1 => LS.2.2 x (by omega) x1⟩
    refine ⟨yS, e, ?_⟩
    unfold orI at z2
    rw [e] at z2
    have := gy y
    omega
  obtain ⟨l1, l2, l3, l4⟩ := hl
  unfold ac
  by_cases hy : y < lo
  · have yo := l4 y y0 hy
    rw [if_pos hy, if_pos yo]
    exact (o1 y y0 y1 yo).2.1
  · rw [if_neg hy, if_neg]
    intro yo
    by_cases e : y = lo
    · rw [e] at yo; exact l3 yo
    · obtain ⟨z1, z2, z3⟩ := o1 y y0 y1 yo
      have nlo : Gg t n (pl t n) lo ≤ t 5 * Sc t (n + 1) + Gg t n (pl t n) S := by
        apply Classical.byContradiction
        intro w
        apply l3
        have l9 : lo < t 9 := by have := LS.2.1; omega
        refine ⟨l9, ?_⟩
        have e : tg (Gg t n (pl t n)) (t 9) (t 9 - lo - 1).toNat = S := LA_uniq (best lo l9) ⟨by omega, LS.2.1, fun x x0 x1 => LS.2.2 x (by omega) x1⟩
        unfold orI
        rw [e]
        have := gy lo
        omega
      have := f2 lo y l1 (by omega) z1 nlo
      omega
theorem s_stray {o lo hi act : Nat → Int32} {bo co : Nat → Int64} (hT : TT (tI o)) (hS : SOL o lo hi bo co act) : f_X4_strayActs o lo hi act = some 0 := by
  have c01 : 0 ≤ tI o 9 ∧ tI o 9 ≤ 20 := by obtain ⟨-, -, -, -, -, -, -, -, -, -, c0, c1⟩ := hT; exact ⟨c0, c1⟩
  have e9 : (o 9).toInt = tI o 9 := rfl
  have i20 : (-20 : Int32).toInt = -20 := rfl
  have inner : ∀ n : Nat, n < 5 → loop (fun z => f_X4_strayActs_L12 (Int32.ofNat (n + 1)) o lo hi act z.1 z.2) fu (0, -20) = some 0 := fun n hn => by
    have g1 : 0 ≤ Int32.ofNat (n + 1) := (on_k (by omega)).2.2
    have g2 : Int32.ofNat (n + 1) < 6 := (on_lt (k := n + 1) (m := 6) (by omega) (by omega)).mpr (by omega)
    have en : (Int32.ofNat (n + 1)).toNatClampNeg = n + 1 := (on_k (by omega)).1
    obtain ⟨p1, p2, p3⟩ := hS.2 n hn
    have lk : lw (n + 1) ≤ -20 := by unfold lw; omega
    obtain ⟨e, q1, q2⟩ := lp_one (f := fun z : Int32 × Int32 => f_X4_strayActs_L12 (Int32.ofNat (n + 1)) o lo hi act z.1 z.2) (fun z => z.1 = 0 ∧ -20 ≤ z.2.toInt ∧ z.2.toInt ≤ tI o 9 + 1) (fun e => e = 0) (fun z => (30 - z.2.toInt).toNat) (by
      rintro ⟨a, v⟩ ⟨r1, r2, r3⟩
      dsimp only at r1 r2 r3
      subst r1
      unfold f_X4_strayActs_L12 f_X4_strayActs_L12_J43 f_X4_strayActs_L12_J63
      dsimp only
      have k9 : o (9 : Int32).toNatClampNeg = o 9 := rfl
      rw [gd_10 (by decide) (by decide), k9]
      by_cases h : o 9 < v
      · right
        rw [if_pos h]
        exact ⟨0, rfl, rfl⟩
      · left
        rw [if_neg h, gd_6 g1 g2, gd_6 g1 g2, en]
        rw [i_lt, e9] at h
        obtain ⟨k1, k2, k3, k4⟩ := cl_rng (n := n + 1) (y := v.toInt) (by omega) (by omega) (by omega)
        have ev1 : (v + 1).toInt = v.toInt + 1 := i_inc (by omega)
        have B := by_bounds hT hn p2 r2 (show v.toInt ≤ tI o 9 by omega)
        have A := (p1 v.toInt (by omega) (by omega)).2
        rw [n_cell (by omega) (by omega) (by omega), bnd1_s, gd_366 k2 k3, k1, bnd1_s, gd_366 k2 k3, k1]
        by_cases hl : lo (n + 1) ≤ v
        · rw [if_pos hl]
          rw [i_le] at hl
          rw [if_neg (by omega)] at B
          rw [if_pos (show act (cl (n + 1) v.toInt) = v by rw [i_eq, A, B])]
          exact ⟨_, rfl, ⟨rfl, by dsimp only; omega, by dsimp only; omega⟩, by dsimp only; omega⟩
        · rw [if_neg hl]
          rw [i_le] at hl
          rw [if_pos (by omega)] at B
          rw [if_pos (show act (cl (n + 1) v.toInt) = hi (n + 1) by rw [i_eq, A, B, p3])]
          exact ⟨_, rfl, ⟨rfl, by dsimp only; omega, by dsimp only; omega⟩, by dsimp only; omega⟩) fu (0, -20) ⟨rfl, by dsimp only; rw [i20]; omega, by dsimp only; rw [i20]; omega⟩ (by dsimp only; rw [i20]; unfold fu; omega)
    rw [q2] at q1
    exact q1
  obtain ⟨e, q1, q2⟩ := lp_one (f := fun z : Int32 × Int32 => f_X4_strayActs_L4 o lo hi act z.1 z.2) (fun z => z.1 = 0 ∧ ∃ n : Nat, n ≤ 5 ∧ z.2 = Int32.ofNat (n + 1)) (fun e => e = 0) (fun z => msr z.2 6) (by
    rintro ⟨a, v⟩ ⟨r1, n, r2, r3⟩
    dsimp only at r1 r3
    subst r1 r3
    unfold f_X4_strayActs_L4
    dsimp only
    by_cases h : n = 5
    · right
      subst h
      exact ⟨0, by rw [if_pos (show (5 : Int32) < Int32.ofNat (5 + 1) by decide)], rfl⟩
    · left
      rw [if_neg (show ¬ (5 : Int32) < Int32.ofNat (n + 1) from fun z => absurd ((on_lt (k := 5) (m := n + 1) (by omega) (by omega)).mp z) (by omega)), inner n (by omega), bnd1_s, on_inc]
      exact ⟨_, rfl, ⟨rfl, n + 1, by omega, rfl⟩, by dsimp only; rw [← on_inc]; exact msr_lt ((on_lt (k := n + 1) (m := 6) (by omega) (by omega)).mpr (by omega))⟩) fu (0, 1) ⟨rfl, 0, by omega, rfl⟩ (msr_fu (by dsimp only; decide) (by decide))
  unfold f_X4_strayActs
  rw [q1, q2, bnd1_s]
/-! ===== what is left is the greatest lack ===== -/
def zS (F : Int32 → Int) : Nat → Int
  | 0 => 0
  | k + 1 => zS F k + F (Int32.ofNat k)
theorem zS_le {F G : Int32 → Int} {N : Int32} (h : ∀ n : Int32, 0 ≤ n → n < N → F n ≤ G n) : zS F N.toNatClampNeg ≤ zS G N.toNatClampNeg := by
  have a : ∀ k : Nat, k ≤ N.toNatClampNeg → zS F k ≤ zS G k := by
    intro k
    induction k with
    | zero => intro _; exact Int.le_refl _
    | succ k ih =>
      intro hk
      obtain ⟨h1, h2, -⟩ := of_rng (show k < N.toNatClampNeg by omega)
      have := h _ h1 h2
      have := ih (by omega)
      unfold zS
      omega
  exact a _ (Nat.le_refl _)
theorem zS_eq {F G : Int32 → Int} {N : Int32} (h : ∀ n : Int32, 0 ≤ n → n < N → F n = G n) : zS F N.toNatClampNeg = zS G N.toNatClampNeg := by
  have a := zS_le (N := N) (fun n n0 n1 => Int.le_of_eq (h n n0 n1))
  have b := zS_le (N := N) (fun n n0 n1 => Int.le_of_eq (h n n0 n1).symm)
  omega
theorem zS_add {F G : Int32 → Int} : ∀ k : Nat, zS (fun n => F n + G n) k = zS F k + zS G k := by
  intro k
  induction k with
  | zero => rfl
  | succ k ih => unfold zS; rw [ih]; omega
theorem zS_0 : ∀ k : Nat, zS (fun _ => 0) k = 0 := by
  intro k
  induction k with
  | zero => rfl
  | succ k ih => unfold zS; rw [ih]; rfl
theorem zS_nn {F : Int32 → Int} {N : Int32} (h : ∀ n : Int32, 0 ≤ n → n < N → 0 ≤ F n) : 0 ≤ zS F N.toNatClampNeg := by
  have := zS_le (F := fun _ => 0) (G := F) (N := N) h
  rwa [zS_0] at this
theorem zS_upd {F G : Int32 → Int} {p N : Int32} (h0 : 0 ≤ p) (h1 : p < N) (h : ∀ n : Int32, 0 ≤ n → n < N → n ≠ p → G n = F n) : zS G N.toNatClampNeg = zS F N.toNatClampNeg + (G p - F p) := by
  have hp : p.toNatClampNeg < N.toNatClampNeg := tn_lt h0 h1
  have a : ∀ k : Nat, k ≤ N.toNatClampNeg → zS G k = zS F k + if p.toNatClampNeg < k then G p - F p else 0 := by
    intro k
    induction k with
    | zero => intro _; rw [if_neg (by omega)]; rfl
    | succ k ih =>
      intro hk
      obtain ⟨h2, h3, h4⟩ := of_rng (show k < N.toNatClampNeg by omega)
      unfold zS
      rw [ih (by omega)]
      by_cases e : Int32.ofNat k = p
      · have e2 : p.toNatClampNeg = k := by rw [← e]; exact h4
        rw [if_neg (by omega), if_pos (by omega), e]; omega
      · have e2 : p.toNatClampNeg ≠ k := fun z => e (by rw [← z]; exact of_tn h0)
        rw [h _ h2 h3 e]
        by_cases e3 : p.toNatClampNeg < k
        · rw [if_pos e3, if_pos (by omega)]; omega
        · rw [if_neg e3, if_neg (by omega)]; omega
  rw [a _ (Nat.le_refl _), if_pos hp]
theorem zS_isum {F : Int32 → Int32} {N : Int32} (hN : N ≤ 1000) (h : ∀ n : Int32, 0 ≤ n → n < N → 0 ≤ (F n).toInt ∧ (F n).toInt ≤ 10000) : (isum F N.toNatClampNeg).toInt = zS (fun n => (F n).toInt) N.toNatClampNeg := by
  have hN' : N.toNatClampNeg ≤ 1000 := by
    rw [i_le, show (1000 : Int32).toInt = 1000 from rfl] at hN
    rw [i_tn]; omega
  have a : ∀ k : Nat, k ≤ N.toNatClampNeg → (isum F k).toInt = zS (fun n => (F n).toInt) k ∧ 0 ≤ zS (fun n => (F n).toInt) k ∧ zS (fun n => (F n).toInt) k ≤ 10000 * k := by
    intro k
    induction k with
    | zero => intro _; exact ⟨rfl, Int.le_refl _, by simp [zS]⟩
    | succ k ih =>
      intro hk
      obtain ⟨h1, h2, -⟩ := of_rng (show k < N.toNatClampNeg by omega)
      obtain ⟨e1, e2⟩ := h _ h1 h2
      obtain ⟨g1, g2, g3⟩ := ih (by omega)
      unfold isum zS
      rw [i_add (by omega) (by omega), g1]
      omega
  exact (a _ (Nat.le_refl _)).1
abbrev FT (p : Int32) (lpr lla lst : Nat → Int32) (D : Int) (l : Int32) : Prop := ix lpr l = p ∧ ix lst l = 0 ∧ D ≤ (ix lla l).toInt
/-- what was taken of the lots that live to day D or longer -/
def TK (p lcn : Int32) (lpr lla lst r0 r1 : Nat → Int32) (D : Int) : Int := zS (fun l => if FT p lpr lla lst D l then (ix r0 l).toInt - (ix r1 l).toInt else 0) lcn.toNatClampNeg
theorem TK_0 {p lcn : Int32} {lpr lla lst r0 r1 : Nat → Int32} {D : Int} (h : ∀ l : Int32, 0 ≤ l → l < lcn → FT p lpr lla lst D l → ix r1 l = ix r0 l) : TK p lcn lpr lla lst r0 r1 D = 0 := by
  unfold TK
  rw [zS_eq (G := fun _ => 0), zS_0]
  intro l l0 l1
  by_cases hf : FT p lpr lla lst D l
  · rw [if_pos hf, h l l0 l1 hf, Int.sub_self]
  · rw [if_neg hf]
theorem TK_add {p lcn : Int32} {lpr lla lst r0 r1 r2 : Nat → Int32} {D : Int} : TK p lcn lpr lla lst r0 r2 D = TK p lcn lpr lla lst r0 r1 D + TK p lcn lpr lla lst r1 r2 D := by
  unfold TK
  rw [← zS_add]
  refine zS_eq fun l l0 l1 => ?_
  by_cases hf : FT p lpr lla lst D l
  · rw [if_pos hf, if_pos hf, if_pos hf]; omega
  · rw [if_neg hf, if_neg hf, if_neg hf]; rfl
theorem TK_nn {p lcn : Int32} {lpr lla lst r0 r1 : Nat → Int32} {D : Int} (h : ∀ l : Int32, 0 ≤ l → l < lcn → (ix r1 l).toInt ≤ (ix r0 l).toInt) : 0 ≤ TK p lcn lpr lla lst r0 r1 D := by
  refine zS_nn fun l l0 l1 => ?_
  have := h l l0 l1
  by_cases hf : FT p lpr lla lst D l
  · rw [if_pos hf]; omega
  · rw [if_neg hf]; exact Int.le_refl _
theorem o_tri {a b : Int32} (h : ¬ a < b) (h2 : b ≠ a) : b < a := by
  rw [i_lt] at h ⊢
  rw [ne_eq, i_eq] at h2
  omega
theorem o_in1 {k : Int32} (h0 : 0 ≤ k) (h1 : k < 24) : (k + 1).toInt = k.toInt + 1 := i_inc (by have := i_lt.mp h1; have e : (24 : Int32).toInt = 24 := rfl; omega)
theorem s_greedy {o p op plc lcn ocn gif : Int32} {pk : Int64} {pbd lpr lla lst lbl opr odu oli a b c oop oha ost rest : Nat → Int32} {W : Int} (lc0 : 0 ≤ lcn) (lc : lcn ≤ 24) (oc : ocn ≤ 40) (o0 : 0 ≤ o) (o1 : o < ocn) (hp : ix opr o = p) (hop : 0 ≤ op) (hop2 : op ≤ 50) (hLs : QLs lcn lla lbl) (hW : (ix odu o + ix oli o).toInt = W) (hr : ∀ l : Int32, 0 ≤ l → l < lcn → 0 ≤ (ix rest l).toInt) :
    ∃ n rest', loop (sv o 0 op plc pbd lcn lpr lla lst lbl ocn opr odu oli) fu (0, 0, pk, a, b, c, gif, oop, oha, ost, rest) = some (n, pk, a, b, c, gif, oop, oha, ost, rest') ∧ 0 ≤ n.toInt ∧ n.toInt ≤ op.toInt ∧ (∀ l : Int32, 0 ≤ l → l < lcn → 0 ≤ (ix rest' l).toInt ∧ (ix rest' l).toInt ≤ (ix rest l).toInt) ∧
      (∀ D, D ≤ W → TK p lcn lpr lla lst rest rest' D = n.toInt) ∧ ∀ l : Int32, 0 ≤ l → l < lcn → FT p lpr lla lst W l → 0 < (ix rest' l).toInt → n = op ∧ TK p lcn lpr lla lst rest rest' ((ix lla l).toInt + 1) = 0 := by
  obtain ⟨L1, L2, L3⟩ := hLs
  have z0 : (0 : Int32).toInt = 0 := rfl
  have z50 : (50 : Int32).toInt = 50 := rfl
  have hop' : 0 ≤ op.toInt := i_le.mp hop
  have hop2' : op.toInt ≤ 50 := i_le.mp hop2
  obtain ⟨e, q1, n, r, q2, q3⟩ := lp_one (f := sv o 0 op plc pbd lcn lpr lla lst lbl ocn opr odu oli)
    (fun z => ∃ r, z = (z.1, z.2.1, pk, a, b, c, gif, oop, oha, ost, r) ∧ 0 ≤ z.2.1 ∧ z.2.1 ≤ lcn ∧ 0 ≤ z.1.toInt ∧ z.1.toInt ≤ op.toInt ∧ (∀ l : Int32, 0 ≤ l → l < lcn → 0 ≤ (ix r l).toInt ∧ (ix r l).toInt ≤ (ix rest l).toInt) ∧
      (∀ D, D ≤ W → TK p lcn lpr lla lst rest r D = z.1.toInt) ∧ (∀ k : Int32, z.2.1 ≤ k → k < lcn → ix r (ix lbl k) = ix rest (ix lbl k)) ∧ (∀ k : Int32, 0 ≤ k → k < lcn → k + 1 < z.2.1 → FT p lpr lla lst W (ix lbl k) → (ix r (ix lbl k)).toInt = 0) ∧ (z.1 < op → ∀ k : Int32, 0 ≤ k → k < z.2.1 → FT p lpr lla lst W (ix lbl k) → (ix r (ix lbl k)).toInt = 0))
    (fun e => ∃ n r, e = (n, pk, a, b, c, gif, oop, oha, ost, r) ∧ 0 ≤ n.toInt ∧ n.toInt ≤ op.toInt ∧ (∀ l : Int32, 0 ≤ l → l < lcn → 0 ≤ (ix r l).toInt ∧ (ix r l).toInt ≤ (ix rest l).toInt) ∧
      (∀ D, D ≤ W → TK p lcn lpr lla lst rest r D = n.toInt) ∧ ∀ l : Int32, 0 ≤ l → l < lcn → FT p lpr lla lst W l → 0 < (ix r l).toInt → n = op ∧ TK p lcn lpr lla lst rest r ((ix lla l).toInt + 1) = 0)
    (fun z => msr z.2.1 lcn) (by
    rintro ⟨n4, n5, pk2, a2, b2, c2, g2, op2, oh2, os2, r2⟩ ⟨r, h0, h1, h2, h3, h4, h5, h6, h7, h8, h9⟩
    dsimp only at h0 h1 h2 h3 h4 h6 h7 h8 h9
    rw [h0]
    clear h0
    by_cases hend : lcn ≤ n5 ∨ op ≤ n4
    · right
      refine ⟨_, sv_end hend, n4, r, rfl, h3, h4, h5, h6, fun l l0 l1 hf hl => ?_⟩
      obtain ⟨k, k0, k1, k2⟩ := L3 l l0 l1
      have e : n4 = op := by
        apply Classical.byContradiction
        intro hne
        have hlt : n4 < op := by rw [i_lt]; rw [i_eq] at hne; omega
        have : lcn ≤ n5 := by
          rcases hend with z | z
          · exact z
          · exact absurd hlt (Int32.not_lt.mpr z)
        have := h9 hlt k k0 (Int32.lt_of_lt_of_le k1 this) (by rw [k2]; exact hf)
        rw [k2] at this
        omega
      refine ⟨e, TK_0 fun m m0 m1 hm => ?_⟩
      obtain ⟨j, j0, j1, j2⟩ := L3 m m0 m1
      have hk : n5 ≤ k + 1 := by
        apply Classical.byContradiction
        intro z
        have := h8 k k0 k1 (Int32.not_le.mp z) (by rw [k2]; exact hf)
        rw [k2] at this
        omega
      have hkj : k < j := by
        apply Classical.byContradiction
        intro z
        have hm3 := hm.2.2
        by_cases ej : j = k
        · rw [ej, k2] at j2
          rw [← j2] at hm3
          omega
        · have := L2 j k j0 (o_tri z ej) k1
          rw [k2, j2] at this
          rcases this with y | y
          · rw [i_lt] at y; omega
          · rw [y.1] at hm3; omega
      have := h7 j (i_le.mpr (by have := i_le.mp hk; rw [o_in1 k0 (Int32.lt_of_lt_of_le k1 lc)] at this; have := i_lt.mp hkj; omega)) j1
      rw [j2] at this
      exact this
    · left
      have n5l : n5 < lcn := Int32.not_le.mp fun z => hend (Or.inl z)
      have n4l : n4 < op := Int32.not_le.mp fun z => hend (Or.inr z)
      have n5e : (n5 + 1).toInt = n5.toInt + 1 := o_in1 h1 (Int32.lt_of_lt_of_le n5l lc)
      have n5i := i_lt.mp n5l
      have n5z := i_le.mp h1
      rw [z0] at n5z
      have n4i := i_lt.mp n4l
      obtain ⟨b0, b1⟩ := L1 n5 h1 n5l
      obtain ⟨r', s1, s2⟩ := sv_dry (op := op) (n4 := n4) (n5 := n5) (gif := gif) (pk := pk) (pbd := pbd) (lpr := lpr) (lla := lla) (lst := lst) (lbl := lbl) (opr := opr) (odu := odu) (oli := oli) (a := a) (b := b) (c := c) (oop := oop) (oha := oha) (ost := ost) (rest := r) (plc := plc) lc oc h1 n5l n4l o0 o1 b0 b1
      generalize hL : ix lbl n5 = L at *
      have hrL := h5 L b0 b1
      have el : (op - n4).toInt = op.toInt - n4.toInt := i_sub (by omega) (by omega)
      have left0 : 0 ≤ op - n4 := by rw [i_le, z0, el]; omega
      obtain ⟨t1, t2, t3, t4⟩ := tk_rng (o := o) (L := L) (left := op - n4) (lpr := lpr) (lla := lla) (lst := lst) (opr := opr) (odu := odu) (oli := oli) (rest := r) left0 (by rw [i_le, z0]; exact hrL.1)
      have SFi : FT p lpr lla lst W L ↔ ix lpr L = ix opr o ∧ ix lst L = 0 ∧ ix odu o + ix oli o ≤ ix lla L := by
        rw [hp, i_le, hW]
      have tz : ¬ FT p lpr lla lst W L → tk o lpr lla lst opr odu oli r L (op - n4) = 0 := fun z => by
        unfold tk
        rw [if_neg (fun y => z (SFi.mpr y))]
      have tf : FT p lpr lla lst W L → tk o lpr lla lst opr odu oli r L (op - n4) < op - n4 → tk o lpr lla lst opr odu oli r L (op - n4) = ix r L := fun z y => by
        unfold tk at y ⊢
        rw [if_pos (SFi.mp z)] at y ⊢
        unfold svp at y ⊢
        by_cases q : ix r L < op - n4
        · rw [if_pos q]
        · rw [if_neg q, i_lt] at y; omega
      generalize ht : tk o lpr lla lst opr odu oli r L (op - n4) = t at *
      rw [i_le, z0] at t1
      rw [i_le, el] at t2
      rw [i_le] at t3
      have e4 : (n4 + t).toInt = n4.toInt + t.toInt := i_add (by omega) (by omega)
      have eL : (ix r L - t).toInt = (ix r L).toInt - t.toInt := i_sub (by omega) (by have := fb_rng (ix r L); omega)
      have rL : (ix r' L).toInt = (ix r L).toInt - t.toInt := by rw [s2 L b0, if_pos rfl, eL]
      have rO : ∀ l : Int32, 0 ≤ l → l ≠ L → ix r' l = ix r l := fun l l0 hl => by rw [s2 l l0, if_neg hl]
      have inj : ∀ k : Int32, 0 ≤ k → k < lcn → ix lbl k = L → k = n5 := fun k k0 k1 ek => by
        apply Classical.byContradiction
        intro z
        rcases (show k < n5 ∨ n5 < k by rw [i_eq] at z; rw [i_lt, i_lt]; omega) with y | y
        · have := L2 k n5 k0 y n5l
          rw [hL, ek] at this
          rcases this with u | u
          · rw [i_lt] at u; omega
          · have := u.2; rw [i_lt] at this; omega
        · have := L2 n5 k h1 y k1
          rw [hL, ek] at this
          rcases this with u | u
          · rw [i_lt] at u; omega
          · have := u.2; rw [i_lt] at this; omega
      refine ⟨_, s1, ⟨r', rfl, by dsimp only; rw [i_le, z0, n5e]; omega, by dsimp only; rw [i_le, n5e]; omega, by dsimp only; omega, by dsimp only; omega, fun l l0 l1 => ?_, fun D hD => ?_, fun k k0 k1 => ?_, fun k k0 kl k1 hf => ?_, fun hlt k k0 k1 hf => ?_⟩, msr_lt n5l⟩ <;> try dsimp only at *
      · by_cases e : l = L
        · rw [e]; omega
        · rw [rO l l0 e]; exact h5 l l0 l1
      · rw [e4, ← h6 D hD]
        have u := zS_upd (F := fun l => if FT p lpr lla lst D l then (ix rest l).toInt - (ix r l).toInt else 0) (G := fun l => if FT p lpr lla lst D l then (ix rest l).toInt - (ix r' l).toInt else 0) b0 b1 (fun l l0 l1 hl => by rw [rO l l0 hl])
        unfold TK
        rw [u]
        by_cases hf : FT p lpr lla lst D L
        · rw [if_pos hf, if_pos hf, rL]
          by_cases hf2 : FT p lpr lla lst W L
          · omega
          · rw [show t = 0 from tz hf2, z0]; omega
        · rw [if_neg hf, if_neg hf, show t = 0 from tz (fun z => hf ⟨z.1, z.2.1, by have := z.2.2; omega⟩), z0]; omega
      · have ki := i_le.mp k0
        rw [n5e] at ki
        have k00 : 0 ≤ k := by rw [i_le, z0]; omega
        have bk := L1 k k00 k1
        rw [rO _ bk.1 (fun z => by have := inj k k00 k1 z; rw [this] at ki; omega)]
        exact h7 k (by rw [i_le]; omega) k1
      · have ki := i_lt.mp k1
        have kz := i_le.mp k0
        rw [z0] at kz
        rw [o_in1 k0 (Int32.lt_of_lt_of_le kl lc), n5e] at ki
        have k1' : k < n5 := by rw [i_lt]; omega
        have bk := L1 k k0 (by rw [i_lt]; omega)
        rw [rO _ bk.1 (fun z => by have := inj k k0 (by rw [i_lt]; omega) z; rw [this] at ki; omega)]
        exact h9 n4l k k0 k1' hf
      · have ki := i_lt.mp k1
        rw [n5e] at ki
        have kl : k < lcn := by rw [i_lt]; omega
        by_cases e : k = n5
        · rw [e, hL] at hf ⊢
          have : t = ix r L := tf hf (by rw [i_lt, el]; rw [i_lt, e4] at hlt; omega)
          rw [rL, this]; omega
        · have bk := L1 k k0 kl
          rw [rO _ bk.1 (fun z => e (inj k k0 kl z))]
          exact h9 n4l k k0 (by rw [i_lt]; rw [i_eq] at e; omega) hf) fu (0, 0, pk, a, b, c, gif, oop, oha, ost, rest)
    ⟨rest, rfl, by dsimp only; decide, by dsimp only; exact lc0, by dsimp only; rw [z0]; omega, by dsimp only; rw [z0]; exact hop', fun l l0 l1 => ⟨hr l l0 l1, Int.le_refl _⟩, fun D _ => TK_0 fun _ _ _ _ => rfl, fun _ _ _ => rfl, fun k k0 kl k1 => by dsimp only at k1; rw [i_lt, z0, o_in1 k0 (Int32.lt_of_lt_of_le kl lc)] at k1; have := i_le.mp k0; rw [z0] at this; omega, fun _ k k0 k1 => by have k2 := i_lt.mp k1; dsimp only at k2; have := i_le.mp k0; omega⟩ (msr_fu (by dsimp only; decide) (by grind))
  rw [q2] at q1
  exact ⟨n, r, q1, q3⟩
/-- the day to which a piece must live for an order -/
abbrev WD (odu oli : Nat → Int32) (o : Int32) : Int := (ix odu o + ix oli o).toInt
abbrev OF (p : Int32) (opr oop odu oli : Nat → Int32) (D : Int) (o : Int32) : Int := if ix opr o = p ∧ D ≤ WD odu oli o then (ix oop o).toInt else 0
theorem zS_inc {F : Int32 → Int} {k : Int32} (h0 : 0 ≤ k) (h1 : k < 90000) : zS F (k + 1).toNatClampNeg = zS F k.toNatClampNeg + F k := by
  rw [tn_inc h0 h1]
  show zS F k.toNatClampNeg + F (Int32.ofNat k.toNatClampNeg) = _
  rw [of_tn h0]
theorem s_left {p plc lcn ocn gif prods : Int32} {pk : Int64} {pbd lpr lla lst lbl ocu opr odu oli obd a b c oop oha ost rest0 w0 : Nat → Int32} (lc0 : 0 ≤ lcn) (lc : lcn ≤ 24) (c0 : 0 ≤ ocn) (oc : ocn ≤ 40) (hLs : QLs lcn lla lbl) (hO : QO ocn prods ocu opr oop odu oli w0) (hOs : QLs ocn odu obd) (hr : ∀ l : Int32, 0 ≤ l → l < lcn → 0 ≤ (ix rest0 l).toInt) :
    ∃ m rest', loop (dl p plc pbd lcn lpr lla lst lbl ocn opr odu oli obd) fu (0, 0, pk, a, b, c, gif, oop, oha, ost, rest0) = some (m, pk, a, b, c, gif, oop, oha, ost, rest') ∧ 0 ≤ m.toInt ∧ (∀ l : Int32, 0 ≤ l → l < lcn → 0 ≤ (ix rest' l).toInt ∧ (ix rest' l).toInt ≤ (ix rest0 l).toInt) ∧
      (∀ D, zS (fun j => OF p opr oop odu oli D (ix obd j)) ocn.toNatClampNeg - TK p lcn lpr lla lst rest0 rest' D ≤ m.toInt) ∧ (∀ D, D ≤ 0 → m.toInt ≤ zS (fun j => OF p opr oop odu oli D (ix obd j)) ocn.toNatClampNeg - TK p lcn lpr lla lst rest0 rest' D) ∧
      ∀ l : Int32, 0 ≤ l → l < lcn → ix lpr l = p → ix lst l = 0 → 0 < (ix rest' l).toInt → m.toInt ≤ zS (fun j => OF p opr oop odu oli ((ix lla l).toInt + 1) (ix obd j)) ocn.toNatClampNeg - TK p lcn lpr lla lst rest0 rest' ((ix lla l).toInt + 1) := by
  have z0 : (0 : Int32).toInt = 0 := rfl
  have z40 : (40 : Int32).toInt = 40 := rfl
  have oci := i_le.mp oc
  rw [z40] at oci
  obtain ⟨e, q1, m, r, q2, q3⟩ := lp_one (f := dl p plc pbd lcn lpr lla lst lbl ocn opr odu oli obd)
    (fun z => ∃ r, z = (z.1, z.2.1, pk, a, b, c, gif, oop, oha, ost, r) ∧ 0 ≤ z.2.1 ∧ z.2.1 ≤ ocn ∧ 0 ≤ z.1.toInt ∧ z.1.toInt ≤ 50 * z.2.1.toInt ∧ (∀ l : Int32, 0 ≤ l → l < lcn → 0 ≤ (ix r l).toInt ∧ (ix r l).toInt ≤ (ix rest0 l).toInt) ∧
      (∀ D, zS (fun j => OF p opr oop odu oli D (ix obd j)) z.2.1.toNatClampNeg - TK p lcn lpr lla lst rest0 r D ≤ z.1.toInt) ∧ (∀ D, D ≤ 0 → z.1.toInt ≤ zS (fun j => OF p opr oop odu oli D (ix obd j)) z.2.1.toNatClampNeg - TK p lcn lpr lla lst rest0 r D) ∧
      ∀ l : Int32, 0 ≤ l → l < lcn → ix lpr l = p → ix lst l = 0 → 0 < (ix r l).toInt → z.1.toInt ≤ zS (fun j => OF p opr oop odu oli ((ix lla l).toInt + 1) (ix obd j)) z.2.1.toNatClampNeg - TK p lcn lpr lla lst rest0 r ((ix lla l).toInt + 1))
    (fun e => ∃ m r, e = (m, pk, a, b, c, gif, oop, oha, ost, r) ∧ 0 ≤ m.toInt ∧ (∀ l : Int32, 0 ≤ l → l < lcn → 0 ≤ (ix r l).toInt ∧ (ix r l).toInt ≤ (ix rest0 l).toInt) ∧
      (∀ D, zS (fun j => OF p opr oop odu oli D (ix obd j)) ocn.toNatClampNeg - TK p lcn lpr lla lst rest0 r D ≤ m.toInt) ∧ (∀ D, D ≤ 0 → m.toInt ≤ zS (fun j => OF p opr oop odu oli D (ix obd j)) ocn.toNatClampNeg - TK p lcn lpr lla lst rest0 r D) ∧
      ∀ l : Int32, 0 ≤ l → l < lcn → ix lpr l = p → ix lst l = 0 → 0 < (ix r l).toInt → m.toInt ≤ zS (fun j => OF p opr oop odu oli ((ix lla l).toInt + 1) (ix obd j)) ocn.toNatClampNeg - TK p lcn lpr lla lst rest0 r ((ix lla l).toInt + 1))
    (fun z => msr z.2.1 ocn) (by
    rintro ⟨n, k, pk2, a2, b2, c2, g2, op2, oh2, os2, r2⟩ ⟨r, h0, h1, h2, h3, h4, h5, h6, h7, h8⟩
    dsimp only at h0 h1 h2 h3 h4 h6 h7 h8
    rw [h0]
    clear h0
    by_cases hend : ocn ≤ k
    · right
      have ek : k = ocn := by have := i_le.mp hend; have := i_le.mp h2; rw [i_eq]; omega
      subst ek
      refine ⟨_, ?_, n, r, rfl, h3, h5, h6, h7, h8⟩
      unfold dl f_X7_leftOpen_L18
      rw [if_pos hend]
    · left
      have kl : k < ocn := Int32.not_le.mp hend
      have ki := i_lt.mp kl
      have kz := i_le.mp h1
      rw [z0] at kz
      have k1 : (k + 1).toInt = k.toInt + 1 := i_inc (by omega)
      have k9 : k < 90000 := by rw [i_lt, show (90000 : Int32).toInt = 90000 from rfl]; omega
      obtain ⟨O0, O1⟩ := hOs.1 k h1 kl
      have rng := hO _ O0 O1
      obtain ⟨-, -, -, -, -, -, -, op0, op1, -, du0, du1, -, li0, li1⟩ := rng
      have op0i := i_le.mp op0
      have op1i := i_le.mp op1
      rw [z0] at op0i
      rw [show (50 : Int32).toInt = 50 from rfl] at op1i
      have du0i := i_le.mp du0
      have li0i := i_le.mp li0
      have du1i := i_le.mp du1
      have li1i := i_le.mp li1
      rw [z0] at du0i li0i
      rw [show (2556 : Int32).toInt = 2556 from rfl] at du1i
      rw [show (400 : Int32).toInt = 400 from rfl] at li1i
      have W0 : 0 ≤ WD odu oli (ix obd k) := by
        show 0 ≤ (ix odu (ix obd k) + ix oli (ix obd k)).toInt
        rw [i_add (by omega) (by omega)]
        omega
      have mm : msr (k + 1) ocn < msr k ocn := msr_lt kl
      have gk : ∀ {α : Type} {t : Option α}, gd k 40 t = t := fun {α t} => gd_40 h1 (by rw [i_lt, z40]; omega)
      have gk2 : ∀ {α : Type} {t : Option α}, gd (ix obd k) 40 t = t := fun {α t} => gd_40 O0 (by have := i_lt.mp O1; rw [i_lt, z40]; omega)
      by_cases hp : ix opr (ix obd k) = p
      · obtain ⟨t, r', s1, s2, s3, s4, s5, s6⟩ := s_greedy (pk := pk) (gif := gif) (pbd := pbd) (a := a) (b := b) (c := c) (oop := oop) (oha := oha) (ost := ost) (plc := plc) lc0 lc oc O0 O1 hp op0 op1 hLs rfl (fun l l0 l1 => (h5 l l0 l1).1)
        have e1 : (ix oop (ix obd k) - t).toInt = (ix oop (ix obd k)).toInt - t.toInt := i_sub (by omega) (by omega)
        have e2 : (n + (ix oop (ix obd k) - t)).toInt = n.toInt + ((ix oop (ix obd k)).toInt - t.toInt) := by rw [i_add (by rw [e1]; omega) (by rw [e1]; omega), e1]
        have T : ∀ D, TK p lcn lpr lla lst rest0 r' D = TK p lcn lpr lla lst rest0 r D + TK p lcn lpr lla lst r r' D := fun D => TK_add
        have Z : ∀ D, zS (fun j => OF p opr oop odu oli D (ix obd j)) (k + 1).toNatClampNeg = zS (fun j => OF p opr oop odu oli D (ix obd j)) k.toNatClampNeg + OF p opr oop odu oli D (ix obd k) := fun D => zS_inc h1 k9
        have O1' : ∀ D, D ≤ WD odu oli (ix obd k) → OF p opr oop odu oli D (ix obd k) = (ix oop (ix obd k)).toInt := fun D hD => if_pos ⟨hp, hD⟩
        have O2' : ∀ D, ¬ D ≤ WD odu oli (ix obd k) → OF p opr oop odu oli D (ix obd k) = 0 := fun D hD => if_neg fun z => hD z.2
        refine ⟨(n + (ix oop (ix obd k) - t), k + 1, pk, a, b, c, gif, oop, oha, ost, r'), ?_, ⟨r', rfl, by dsimp only; rw [i_le, z0, k1]; omega, by dsimp only; rw [i_le, k1]; omega, by dsimp only; rw [e2]; omega, by dsimp only; rw [e2, k1]; omega, fun l l0 l1 => ?_, fun D => ?_, fun D hD => ?_, fun l l0 l1 l2 l3 l4 => ?_⟩, mm⟩
        · unfold dl f_X7_leftOpen_L18 f_X7_leftOpen_L18_J86
          dsimp only
          rw [if_neg hend, gk, n_isOf oc O0 O1, if_pos hp]
          simp only [bnd1, Option.bind_some]
          rw [if_neg one_ne, gk2, serve_eq oc O0 O1, s1]
          rfl
        · have := s4 l l0 l1
          have := h5 l l0 l1
          omega
        · dsimp only
          rw [T, Z, e2]
          have := h6 D
          by_cases hD : D ≤ WD odu oli (ix obd k)
          · rw [O1' D hD, s5 D hD]; omega
          · rw [O2' D hD]
            have := TK_nn (p := p) (lcn := lcn) (lpr := lpr) (lla := lla) (lst := lst) (r0 := r) (r1 := r') (D := D) (fun l l0 l1 => (s4 l l0 l1).2)
            omega
        · dsimp only
          rw [T, Z, e2]
          have := h7 D hD
          rw [O1' D (by omega), s5 D (by show D ≤ WD odu oli (ix obd k); omega)]; omega
        · dsimp only
          rw [T, Z, e2]
          have a1 := s4 l l0 l1
          have := h8 l l0 l1 l2 l3 (by omega)
          by_cases hD : (ix lla l).toInt + 1 ≤ WD odu oli (ix obd k)
          · rw [O1' _ hD, s5 _ hD]; omega
          · rw [O2' _ hD]
            obtain ⟨u1, u2⟩ := s6 l l0 l1 ⟨l2, l3, by show WD odu oli (ix obd k) ≤ _; omega⟩ l4
            rw [u1, u2] at *
            omega
      · have Z : ∀ D, zS (fun j => OF p opr oop odu oli D (ix obd j)) (k + 1).toNatClampNeg = zS (fun j => OF p opr oop odu oli D (ix obd j)) k.toNatClampNeg := fun D => by
          rw [zS_inc h1 k9]
          have : OF p opr oop odu oli D (ix obd k) = 0 := if_neg fun z => hp z.1
          rw [this]
          omega
        refine ⟨(n, k + 1, pk, a, b, c, gif, oop, oha, ost, r), ?_, ⟨r, rfl, by dsimp only; rw [i_le, z0, k1]; omega, by dsimp only; rw [i_le, k1]; omega, h3, by dsimp only; rw [k1]; omega, h5, fun D => ?_, fun D hD => ?_, fun l l0 l1 l2 l3 l4 => ?_⟩, mm⟩
        · unfold dl f_X7_leftOpen_L18 f_X7_leftOpen_L18_J86
          dsimp only
          rw [if_neg hend, gk, n_isOf oc O0 O1, if_neg hp]
          simp only [bnd1, Option.bind_some, ↓reduceIte]
        · dsimp only; rw [Z]; exact h6 D
        · dsimp only; rw [Z]; exact h7 D hD
        · dsimp only; rw [Z]; exact h8 l l0 l1 l2 l3 l4) fu (0, 0, pk, a, b, c, gif, oop, oha, ost, rest0)
    (by
      have t0 : ∀ D, TK p lcn lpr lla lst rest0 rest0 D = 0 := fun D => TK_0 fun _ _ _ _ => rfl
      have s0 : ∀ D, zS (fun j => OF p opr oop odu oli D (ix obd j)) (0 : Int32).toNatClampNeg = 0 := fun D => rfl
      refine ⟨rest0, rfl, by dsimp only; decide, c0, by dsimp only; decide, by dsimp only; decide, fun l l0 l1 => ⟨hr l l0 l1, Int.le_refl _⟩, fun D => ?_, fun D _ => ?_, fun l _ _ _ _ _ => ?_⟩ <;> dsimp only <;> rw [t0, s0] <;> decide) (msr_fu (by dsimp only; decide) (by rw [i_lt, show (90000 : Int32).toInt = 90000 from rfl]; omega))
  rw [q2] at q1
  exact ⟨m, r, q1, q3⟩
/-- how many more are asked for than there are, at a day -/
def DF (p ocn lcn : Int32) (lpr lla lst opr oop odu oli P0 : Nat → Int32) (D : Int) : Int := zS (OF p opr oop odu oli D) ocn.toNatClampNeg - zS (fun l => if FT p lpr lla lst D l then (ix P0 l).toInt else 0) lcn.toNatClampNeg
theorem zS_rng {F : Int32 → Int} {N : Int32} {B : Int} (hB : 0 ≤ B) (h : ∀ n : Int32, 0 ≤ n → n < N → 0 ≤ F n ∧ F n ≤ B) : ∀ k : Nat, k ≤ N.toNatClampNeg → 0 ≤ zS F k ∧ zS F k ≤ B * k := by
  intro k
  induction k with
  | zero => intro _; simp [zS]
  | succ k ih =>
    intro hk
    obtain ⟨h1, h2, -⟩ := of_rng (show k < N.toNatClampNeg by omega)
    obtain ⟨e1, e2⟩ := h _ h1 h2
    obtain ⟨g1, g2⟩ := ih (by omega)
    have m2 : B * ((k + 1 : Nat) : Int) = B * k + B := by rw [Int.natCast_add, Int.mul_add]; simp
    unfold zS
    omega
theorem n_lack {p plc lcn ocn day prods : Int32} {plot ppc lpr lla lst ocu opr oop odu oli rest rest' w0 : Nat → Int32} (lc0 : 0 ≤ lcn) (lc : lcn ≤ 24) (c0 : 0 ≤ ocn) (oc : ocn ≤ 40) (hO : QO ocn prods ocu opr oop odu oli w0) (hc : f_X5_countLots plc plot ppc rest = some rest') (hr : ∀ l : Int32, 0 ≤ l → l < lcn → 0 ≤ (ix rest' l).toInt ∧ (ix rest' l).toInt ≤ 960) :
    ∃ e, f_X7_lackAt p day plc plot ppc lcn lpr lla lst ocn opr oop odu oli rest = some (e, rest') ∧ e.toInt = DF p ocn lcn lpr lla lst opr oop odu oli rest' day.toInt := by
  have z0 : (0 : Int32).toInt = 0 := rfl
  have oci := i_le.mp oc
  rw [show (40 : Int32).toInt = 40 from rfl] at oci
  have lci := i_le.mp lc
  rw [show (24 : Int32).toInt = 24 from rfl] at lci
  have c0i := i_le.mp c0
  have lc0i := i_le.mp lc0
  rw [z0] at c0i lc0i
  have ocN : (ocn.toNatClampNeg : Int) ≤ 40 := by rw [i_tn]; omega
  have lcN : (lcn.toNatClampNeg : Int) ≤ 24 := by rw [i_tn]; omega
  have OFr : ∀ n : Int32, 0 ≤ n → n < ocn → 0 ≤ OF p opr oop odu oli day.toInt n ∧ OF p opr oop odu oli day.toInt n ≤ 50 := fun n n0 n1 => by
    obtain ⟨-, -, -, -, -, -, -, op0, op1, -⟩ := hO n n0 n1
    rw [i_le] at op0 op1
    rw [z0] at op0
    rw [show (50 : Int32).toInt = 50 from rfl] at op1
    unfold OF
    by_cases h : ix opr n = p ∧ day.toInt ≤ WD odu oli n
    · rw [if_pos h]; exact ⟨op0, op1⟩
    · rw [if_neg h]; omega
  have FTr : ∀ n : Int32, 0 ≤ n → n < lcn → 0 ≤ (if FT p lpr lla lst day.toInt n then (ix rest' n).toInt else 0) ∧ (if FT p lpr lla lst day.toInt n then (ix rest' n).toInt else 0) ≤ 960 := fun n n0 n1 => by
    have := hr n n0 n1
    by_cases h : FT p lpr lla lst day.toInt n
    · rw [if_pos h]; exact this
    · rw [if_neg h]; omega
  have RO := zS_rng (by omega) OFr
  have RL := zS_rng (by omega) FTr
  obtain ⟨e, q1, q2⟩ := lp_one (f := fun z : Int32 × Int32 => f_X2_openFrom_L5 p day ocn opr oop odu oli z.1 z.2) (fun z => 0 ≤ z.2 ∧ z.2 ≤ ocn ∧ z.1.toInt = zS (OF p opr oop odu oli day.toInt) z.2.toNatClampNeg) (fun e => e.toInt = zS (OF p opr oop odu oli day.toInt) ocn.toNatClampNeg) (fun z => msr z.2 ocn) (by
    rintro ⟨a, n⟩ ⟨g1, g2, g3⟩
    dsimp only at g1 g2 g3 ⊢
    unfold f_X2_openFrom_L5 f_X2_openFrom_L5_J45
    by_cases hn : ocn ≤ n
    · right
      have en : n = ocn := by have := i_le.mp hn; have := i_le.mp g2; rw [i_eq]; omega
      rw [if_pos hn]
      exact ⟨a, rfl, by rw [g3, en]⟩
    · left
      have nl : n < ocn := Int32.not_le.mp hn
      have ni := i_lt.mp nl
      have nz := i_le.mp g1
      rw [z0] at nz
      have n1 : (n + 1).toInt = n.toInt + 1 := i_inc (by omega)
      have n9 : n < 90000 := by rw [i_lt, show (90000 : Int32).toInt = 90000 from rfl]; omega
      have r0 := RO n.toNatClampNeg (by have := tn_lt g1 nl; omega)
      have r1 := OFr n g1 nl
      have rb : (n.toNatClampNeg : Int) ≤ 40 := by rw [i_tn]; omega
      have S := zS_inc (F := OF p opr oop odu oli day.toInt) g1 n9
      rw [if_neg hn, gd_40 g1 (by rw [i_lt, show (40 : Int32).toInt = 40 from rfl]; omega), gd_40 g1 (by rw [i_lt, show (40 : Int32).toInt = 40 from rfl]; omega), n_wanted oc g1 nl]
      simp only [bnd1, Option.bind_some]
      by_cases h1 : ix opr n = p
      · rw [if_pos (show opr n.toNatClampNeg = p from h1)]
        by_cases h2 : ix odu n + ix oli n < day
        · rw [if_pos h2]
          rw [i_lt] at h2
          have : OF p opr oop odu oli day.toInt n = 0 := if_neg fun z => by have := z.2; have : day.toInt ≤ (ix odu n + ix oli n).toInt := this; omega
          refine ⟨_, rfl, ⟨by dsimp only; rw [i_le, z0, n1]; omega, by dsimp only; rw [i_le, n1]; omega, by dsimp only; rw [S, g3, this]; omega⟩, msr_lt nl⟩
        · rw [if_neg h2]
          rw [i_lt] at h2
          have : OF p opr oop odu oli day.toInt n = (ix oop n).toInt := if_pos ⟨h1, by show day.toInt ≤ (ix odu n + ix oli n).toInt; omega⟩
          refine ⟨_, rfl, ⟨by dsimp only; rw [i_le, z0, n1]; omega, by dsimp only; rw [i_le, n1]; omega, ?_⟩, msr_lt nl⟩
          dsimp only
          rw [S, this, ← g3]
          exact i_add (by show _ ≤ a.toInt + (ix oop n).toInt; omega) (by show a.toInt + (ix oop n).toInt ≤ _; omega)
      · rw [if_neg (show ¬ opr n.toNatClampNeg = p from h1)]
        have : OF p opr oop odu oli day.toInt n = 0 := if_neg fun z => h1 z.1
        refine ⟨_, rfl, ⟨by dsimp only; rw [i_le, z0, n1]; omega, by dsimp only; rw [i_le, n1]; omega, by dsimp only; rw [S, g3, this]; omega⟩, msr_lt nl⟩) fu (0, 0) ⟨by decide, c0, rfl⟩ (msr_fu (by dsimp only; decide) (by rw [i_lt, show (90000 : Int32).toInt = 90000 from rfl]; omega))
  have E0 := RO ocn.toNatClampNeg (Nat.le_refl _)
  obtain ⟨e2, q3, q4⟩ := lp_one (f := fun z : Int32 × Int32 => f_X7_lackAt_L30 p day plc plot ppc lcn lpr lla lst ocn opr oop odu oli rest' z.1 z.2) (fun z => 0 ≤ z.2 ∧ z.2 ≤ lcn ∧ z.1.toInt = e.toInt - zS (fun l => if FT p lpr lla lst day.toInt l then (ix rest' l).toInt else 0) z.2.toNatClampNeg) (fun x => x.toInt = e.toInt - zS (fun l => if FT p lpr lla lst day.toInt l then (ix rest' l).toInt else 0) lcn.toNatClampNeg) (fun z => msr z.2 lcn) (by
    rintro ⟨a, n⟩ ⟨g1, g2, g3⟩
    dsimp only at g1 g2 g3 ⊢
    unfold f_X7_lackAt_L30 f_X7_lackAt_L30_J72
    by_cases hn : lcn ≤ n
    · right
      have en : n = lcn := by have := i_le.mp hn; have := i_le.mp g2; rw [i_eq]; omega
      rw [if_pos hn]
      exact ⟨a, rfl, by rw [g3, en]⟩
    · left
      have nl : n < lcn := Int32.not_le.mp hn
      have ni := i_lt.mp nl
      have nz := i_le.mp g1
      rw [z0] at nz
      have n1 : (n + 1).toInt = n.toInt + 1 := i_inc (by omega)
      have n9 : n < 90000 := by rw [i_lt, show (90000 : Int32).toInt = 90000 from rfl]; omega
      have r0 := RL n.toNatClampNeg (by have := tn_lt g1 nl; omega)
      have r1 := FTr n g1 nl
      have rb : (n.toNatClampNeg : Int) ≤ 24 := by rw [i_tn]; omega
      have rr := hr n g1 nl
      have S := zS_inc (F := fun l => if FT p lpr lla lst day.toInt l then (ix rest' l).toInt else 0) g1 n9
      rw [if_neg hn, n_isFit lc g1 nl]
      simp only [bnd1, Option.bind_some]
      by_cases h1 : ix lpr n = p ∧ ix lst n = 0 ∧ day ≤ ix lla n
      · rw [if_pos h1, if_neg one_ne, gd_24 g1 (by rw [i_lt, show (24 : Int32).toInt = 24 from rfl]; omega)]
        have h2 : FT p lpr lla lst day.toInt n := ⟨h1.1, h1.2.1, i_le.mp h1.2.2⟩
        rw [if_pos h2] at S
        refine ⟨_, rfl, ⟨by dsimp only; rw [i_le, z0, n1]; omega, by dsimp only; rw [i_le, n1]; omega, ?_⟩, msr_lt nl⟩
        dsimp only
        rw [S]
        have : (a - ix rest' n).toInt = a.toInt - (ix rest' n).toInt := i_sub (by omega) (by omega)
        show (a - ix rest' n).toInt = _
        omega
      · rw [if_neg h1, if_pos rfl]
        have h2 : ¬ FT p lpr lla lst day.toInt n := fun z => h1 ⟨z.1, z.2.1, i_le.mpr z.2.2⟩
        rw [if_neg h2] at S
        refine ⟨_, rfl, ⟨by dsimp only; rw [i_le, z0, n1]; omega, by dsimp only; rw [i_le, n1]; omega, by dsimp only; rw [S]; omega⟩, msr_lt nl⟩) fu (e, 0) ⟨by dsimp only; decide, lc0, by dsimp only; rw [show zS (fun l => if FT p lpr lla lst day.toInt l then (ix rest' l).toInt else 0) (0 : Int32).toNatClampNeg = 0 from rfl]; omega⟩ (msr_fu (by dsimp only; decide) (by rw [i_lt, show (90000 : Int32).toInt = 90000 from rfl]; omega))
  refine ⟨e2, ?_, by rw [q4, q2]; rfl⟩
  unfold f_X7_lackAt f_X2_openFrom
  rw [q1, bnd1_s, bnd1_s, hc, bnd1_s, q3, bnd1_s]
theorem n_great {p plc lcn ocn prods : Int32} {plot ppc lpr lla lst ocu opr oop odu oli rest w0 P0 : Nat → Int32} (lc0 : 0 ≤ lcn) (lc : lcn ≤ 24) (c0 : 0 ≤ ocn) (oc : ocn ≤ 40) (hO : QO ocn prods ocu opr oop odu oli w0) (hc : ∀ rest, ∃ rest', f_X5_countLots plc plot ppc rest = some rest' ∧ ∀ l : Int32, 0 ≤ l → l < lcn → ix rest' l = ix P0 l) (hr : ∀ l : Int32, 0 ≤ l → l < lcn → 0 ≤ (ix P0 l).toInt ∧ (ix P0 l).toInt ≤ 960) :
    ∃ m r', f_X7_greatestLack p plc plot ppc lcn lpr lla lst ocn opr oop odu oli rest = some (m, r') ∧ 0 ≤ m.toInt ∧ (∀ o : Int32, 0 ≤ o → o < ocn → ix opr o = p → DF p ocn lcn lpr lla lst opr oop odu oli P0 (WD odu oli o) ≤ m.toInt) ∧ (m.toInt = 0 ∨ ∃ o : Int32, 0 ≤ o ∧ o < ocn ∧ ix opr o = p ∧ m.toInt = DF p ocn lcn lpr lla lst opr oop odu oli P0 (WD odu oli o)) := by
  have z0 : (0 : Int32).toInt = 0 := rfl
  have oci := i_le.mp oc
  rw [show (40 : Int32).toInt = 40 from rfl] at oci
  obtain ⟨⟨m, r⟩, q1, q2⟩ := lp_one (f := fun z : Int32 × Int32 × (Nat → Int32) => f_X7_greatestLack_L4 p plc plot ppc lcn lpr lla lst ocn opr oop odu oli z.1 z.2.1 z.2.2) (fun z => 0 ≤ z.2.1 ∧ z.2.1 ≤ ocn ∧ 0 ≤ z.1.toInt ∧ (∀ o : Int32, 0 ≤ o → o < z.2.1 → ix opr o = p → DF p ocn lcn lpr lla lst opr oop odu oli P0 (WD odu oli o) ≤ z.1.toInt) ∧ (z.1.toInt = 0 ∨ ∃ o : Int32, 0 ≤ o ∧ o < ocn ∧ ix opr o = p ∧ z.1.toInt = DF p ocn lcn lpr lla lst opr oop odu oli P0 (WD odu oli o)))
    (fun e => 0 ≤ e.1.toInt ∧ (∀ o : Int32, 0 ≤ o → o < ocn → ix opr o = p → DF p ocn lcn lpr lla lst opr oop odu oli P0 (WD odu oli o) ≤ e.1.toInt) ∧ (e.1.toInt = 0 ∨ ∃ o : Int32, 0 ≤ o ∧ o < ocn ∧ ix opr o = p ∧ e.1.toInt = DF p ocn lcn lpr lla lst opr oop odu oli P0 (WD odu oli o))) (fun z => msr z.2.1 ocn) (by
    rintro ⟨a, n, r⟩ ⟨g1, g2, g3, g4, g5⟩
    dsimp only at g1 g2 g3 g4 g5 ⊢
    unfold f_X7_greatestLack_L4 f_X7_greatestLack_L4_J54
    by_cases hn : ocn ≤ n
    · right
      have en : n = ocn := by have := i_le.mp hn; have := i_le.mp g2; rw [i_eq]; omega
      rw [if_pos hn]
      subst en
      exact ⟨_, rfl, g3, g4, g5⟩
    · left
      have nl : n < ocn := Int32.not_le.mp hn
      have ni := i_lt.mp nl
      have nz := i_le.mp g1
      rw [z0] at nz
      have n1 : (n + 1).toInt = n.toInt + 1 := i_inc (by omega)
      rw [if_neg hn, n_isOf oc g1 nl]
      simp only [bnd1, Option.bind_some]
      by_cases h1 : ix opr n = p
      · obtain ⟨r', c1, c2⟩ := hc r
        obtain ⟨e, s1, s2⟩ := n_lack (p := p) (day := ix odu n + ix oli n) (lpr := lpr) (lla := lla) (lst := lst) lc0 lc c0 oc hO c1 (fun l l0 l1 => by rw [c2 l l0 l1]; exact hr l l0 l1)
        have s3 : e.toInt = DF p ocn lcn lpr lla lst opr oop odu oli P0 (WD odu oli n) := by
          rw [s2]
          have h := zS_eq (F := fun l => if FT p lpr lla lst (WD odu oli n) l then (ix r' l).toInt else 0) (G := fun l => if FT p lpr lla lst (WD odu oli n) l then (ix P0 l).toInt else 0) (N := lcn) (fun l l0 l1 => by rw [c2 l l0 l1])
          exact congrArg (fun z => zS (OF p opr oop odu oli (WD odu oli n)) ocn.toNatClampNeg - z) h
        rw [if_pos h1, if_neg one_ne, n_wanted oc g1 nl]
        simp only [Option.bind_some]
        rw [s1]
        simp only [bnd2, Option.bind_some]
        refine ⟨_, rfl, ⟨by dsimp only; rw [i_le, z0, n1]; omega, by dsimp only; rw [i_le, n1]; omega, ?_⟩, msr_lt nl⟩
        dsimp only
        have key : ∀ v : Int32, a.toInt ≤ v.toInt → e.toInt ≤ v.toInt → (v = a ∨ v = e) → 0 ≤ v.toInt ∧ (∀ o : Int32, 0 ≤ o → o < n + 1 → ix opr o = p → DF p ocn lcn lpr lla lst opr oop odu oli P0 (WD odu oli o) ≤ v.toInt) ∧ (v.toInt = 0 ∨ ∃ o : Int32, 0 ≤ o ∧ o < ocn ∧ ix opr o = p ∧ v.toInt = DF p ocn lcn lpr lla lst opr oop odu oli P0 (WD odu oli o)) := fun v v1 v2 v3 => by
          refine ⟨by omega, fun o o0 o1 op => ?_, ?_⟩
          · by_cases eo : o = n
            · rw [eo, ← s3]; exact v2
            · have := g4 o o0 (by rw [i_lt, n1] at o1; rw [i_eq] at eo; rw [i_lt]; omega) op
              omega
          · rcases v3 with v3 | v3
            · rw [v3]; exact g5
            · right
              exact ⟨n, g1, nl, h1, by rw [v3, s3]⟩
        by_cases hl : a < e
        · rw [if_pos hl]
          rw [i_lt] at hl
          exact key e (by omega) (Int.le_refl _) (Or.inr rfl)
        · rw [if_neg hl]
          rw [i_lt] at hl
          exact key a (Int.le_refl _) (by omega) (Or.inl rfl)
      · rw [if_neg h1, if_pos rfl]
        refine ⟨_, rfl, ⟨by dsimp only; rw [i_le, z0, n1]; omega, by dsimp only; rw [i_le, n1]; omega, g3, fun o o0 o1 op => ?_, g5⟩, msr_lt nl⟩
        dsimp only at o1 ⊢
        by_cases eo : o = n
        · rw [eo] at op; exact absurd op h1
        · exact g4 o o0 (by rw [i_lt, n1] at o1; rw [i_eq] at eo; rw [i_lt]; omega) op) fu (0, 0, rest) ⟨by dsimp only; decide, c0, by dsimp only; decide, fun o o0 o1 _ => by have := i_le.mp o0; have o2 := i_lt.mp o1; dsimp only at o2; omega, Or.inl rfl⟩ (msr_fu (by dsimp only; decide) (by rw [i_lt, show (90000 : Int32).toInt = 90000 from rfl]; omega))
  refine ⟨m, r, ?_, q2⟩
  unfold f_X7_greatestLack
  rw [q1]
  rfl
theorem max_ex {P : Nat → Prop} {key : Nat → Int} : ∀ n : Nat, (∀ k, k < n → ¬ P k) ∨ ∃ k, k < n ∧ P k ∧ ∀ j, j < n → P j → key j ≤ key k := by
  intro n
  induction n with
  | zero => left; intro k hk; omega
  | succ n ih =>
    by_cases hp : P n
    · right
      rcases ih with h | ⟨k, k1, k2, k3⟩
      · refine ⟨n, by omega, hp, fun j j1 j2 => ?_⟩
        by_cases e : j = n
        · rw [e]; exact Int.le_refl _
        · exact absurd j2 (h j (by omega))
      · by_cases hk : key k ≤ key n
        · refine ⟨n, by omega, hp, fun j j1 j2 => ?_⟩
          by_cases e : j = n
          · rw [e]; exact Int.le_refl _
          · have := k3 j (by omega) j2; omega
        · refine ⟨k, by omega, k2, fun j j1 j2 => ?_⟩
          by_cases e : j = n
          · rw [e]; omega
          · exact k3 j (by omega) j2
    · rcases ih with h | ⟨k, k1, k2, k3⟩
      · left
        intro k hk
        by_cases e : k = n
        · rw [e]; exact hp
        · exact h k (by omega)
      · right
        refine ⟨k, by omega, k2, fun j j1 j2 => ?_⟩
        by_cases e : j = n
        · rw [e] at j2; exact absurd j2 hp
        · exact k3 j (by omega) j2
theorem max_in {P : Int32 → Prop} {key : Int32 → Int} (N : Int32) : (∀ l : Int32, 0 ≤ l → l < N → ¬ P l) ∨ ∃ k : Int32, 0 ≤ k ∧ k < N ∧ P k ∧ ∀ l : Int32, 0 ≤ l → l < N → P l → key l ≤ key k := by
  rcases max_ex (P := fun k => P (Int32.ofNat k)) (key := fun k => key (Int32.ofNat k)) N.toNatClampNeg with h | ⟨k, k1, k2, k3⟩
  · left
    intro l l0 l1 hl
    exact h _ (tn_lt l0 l1) (by show P (Int32.ofNat l.toNatClampNeg); rw [of_tn l0]; exact hl)
  · right
    obtain ⟨a, b, -⟩ := of_rng k1
    refine ⟨Int32.ofNat k, a, b, k2, fun l l0 l1 hl => ?_⟩
    have := k3 _ (tn_lt l0 l1) (by show P (Int32.ofNat l.toNatClampNeg); rw [of_tn l0]; exact hl)
    rwa [of_tn l0] at this
theorem left_lack {p plc lcn ocn gif prods : Int32} {pk : Int64} {pbd lpr lla lst lbl ocu opr odu oli obd a b c oop oha ost crest w0 P0 : Nat → Int32} (lc0 : 0 ≤ lcn) (lc : lcn ≤ 24) (c0 : 0 ≤ ocn) (oc : ocn ≤ 40) (hLs : QLs lcn lla lbl) (hO : QO ocn prods ocu opr oop odu oli w0) (hOs : QLs ocn odu obd) (hla : ∀ l : Int32, 0 ≤ l → l < lcn → 0 ≤ (ix lla l).toInt)
    (hc : ∀ rest, ∃ rest', f_X5_countLots plc a b rest = some rest' ∧ ∀ l : Int32, 0 ≤ l → l < lcn → ix rest' l = ix P0 l) (hr : ∀ l : Int32, 0 ≤ l → l < lcn → 0 ≤ (ix P0 l).toInt ∧ (ix P0 l).toInt ≤ 960) :
    ∃ m r', f_X7_leftOpen p plc pk a b c pbd lcn lpr lla lst lbl ocn gif opr oop odu oli obd oha ost crest = some (m, pk, a, b, c, gif, oop, oha, ost, r') ∧ ∀ rest, ∃ r'', f_X7_greatestLack p plc a b lcn lpr lla lst ocn opr oop odu oli rest = some (m, r'') := by
  have z0 : (0 : Int32).toInt = 0 := rfl
  obtain ⟨rest', c1, c2⟩ := hc crest
  obtain ⟨m, r', s1, s2, s3, s4, s5, s6⟩ := s_left (p := p) (pk := pk) (gif := gif) (pbd := pbd) (lpr := lpr) (lst := lst) (a := a) (b := b) (c := c) (oha := oha) (ost := ost) (plc := plc) (rest0 := rest') lc0 lc c0 oc hLs hO hOs (fun l l0 l1 => by rw [c2 l l0 l1]; exact (hr l l0 l1).1)
  refine ⟨m, r', ?_, fun rest => ?_⟩
  · unfold f_X7_leftOpen
    rw [c1, bnd1_s]
    have t1' : loop (fun z : Int32 × Int32 × X9 => f_X7_leftOpen_L18 p plc pbd lcn lpr lla lst lbl ocn opr odu oli obd z.1 z.2.1 z.2.2.1 z.2.2.2.1 z.2.2.2.2.1 z.2.2.2.2.2.1 z.2.2.2.2.2.2.1 z.2.2.2.2.2.2.2.1 z.2.2.2.2.2.2.2.2.1 z.2.2.2.2.2.2.2.2.2.1 z.2.2.2.2.2.2.2.2.2.2) fu (0, 0, pk, a, b, c, gif, oop, oha, ost, rest') = some (m, pk, a, b, c, gif, oop, oha, ost, r') := s1
    rw [t1']
    rfl
  · obtain ⟨g, r'', g1, g2, g3, g4⟩ := n_great (p := p) (lpr := lpr) (lla := lla) (lst := lst) (rest := rest) lc0 lc c0 oc hO hc hr
    refine ⟨r'', ?_⟩
    rw [g1]
    have perm : ∀ D, zS (fun j => OF p opr oop odu oli D (ix obd j)) ocn.toNatClampNeg = zS (OF p opr oop odu oli D) ocn.toNatClampNeg := fun D => by
      let F : Int32 → Int32 := fun o => if ix opr o = p ∧ D ≤ WD odu oli o then ix oop o else 0
      have F1 : ∀ o, (F o).toInt = OF p opr oop odu oli D o := fun o => by
        show (if ix opr o = p ∧ D ≤ WD odu oli o then ix oop o else 0).toInt = if ix opr o = p ∧ D ≤ WD odu oli o then (ix oop o).toInt else 0
        by_cases h : ix opr o = p ∧ D ≤ WD odu oli o
        · rw [if_pos h, if_pos h]
        · rw [if_neg h, if_neg h]; rfl
      have F2 : ∀ o : Int32, 0 ≤ o → o < ocn → 0 ≤ (F o).toInt ∧ (F o).toInt ≤ 10000 := fun o o0 o1 => by
        obtain ⟨-, -, -, -, -, -, -, op0, op1, -⟩ := hO o o0 o1
        rw [i_le] at op0 op1
        rw [z0] at op0
        rw [show (50 : Int32).toInt = 50 from rfl] at op1
        rw [F1]
        show 0 ≤ (if ix opr o = p ∧ D ≤ WD odu oli o then (ix oop o).toInt else 0) ∧ (if ix opr o = p ∧ D ≤ WD odu oli o then (ix oop o).toInt else 0) ≤ 10000
        by_cases h : ix opr o = p ∧ D ≤ WD odu oli o
        · rw [if_pos h]; omega
        · rw [if_neg h]; omega
      have n1000 : ocn ≤ 1000 := by
        rw [i_le] at oc ⊢
        rw [show (40 : Int32).toInt = 40 from rfl] at oc
        rw [show (1000 : Int32).toInt = 1000 from rfl]
        omega
      have inj : ∀ a b : Int32, 0 ≤ a → a < ocn → 0 ≤ b → b < ocn → ix obd a = ix obd b → a = b := by
        intro a b a0 a1 b0 b1 z
        by_cases e : a = b
        · exact e
        · rcases (show a < b ∨ b < a by rw [i_eq] at e; rw [i_lt, i_lt]; omega) with y | y
          · have := hOs.2.1 a b a0 y b1
            rw [z] at this
            rcases this with u | u
            · rw [i_lt] at u; omega
            · have := u.2; rw [i_lt] at this; omega
          · have := hOs.2.1 b a b0 y a1
            rw [z] at this
            rcases this with u | u
            · rw [i_lt] at u; omega
            · have := u.2; rw [i_lt] at this; omega
      have P := isum_perm (f := obd) (F := F) c0 hOs.1 inj hOs.2.2
      have A := zS_isum (F := F) n1000 F2
      have B := zS_isum (F := fun k => F (ix obd k)) n1000 (fun k k0 k1 => F2 _ (hOs.1 k k0 k1).1 (hOs.1 k k0 k1).2)
      rw [P, A] at B
      rw [← zS_eq (F := fun n => (F n).toInt) (fun n _ _ => F1 n), B]
      exact (zS_eq (fun n _ _ => F1 _)).symm
    have Pc : ∀ D, TK p lcn lpr lla lst rest' r' D ≤ zS (fun l => if FT p lpr lla lst D l then (ix P0 l).toInt else 0) lcn.toNatClampNeg := fun D => by
      refine zS_le fun l l0 l1 => ?_
      have := (s3 l l0 l1).1
      by_cases h : FT p lpr lla lst D l
      · rw [if_pos h, if_pos h, c2 l l0 l1]; omega
      · rw [if_neg h, if_neg h]; exact Int.le_refl _
    have Dm : ∀ D, DF p ocn lcn lpr lla lst opr oop odu oli P0 D ≤ m.toInt := fun D => by
      have a1 := s4 D
      have a2 := Pc D
      rw [perm] at a1
      unfold DF
      omega
    have lo : g.toInt ≤ m.toInt := by
      rcases g4 with h | ⟨o, o0, o1, o2, o3⟩
      · omega
      · rw [o3]; exact Dm _
    have hi : m.toInt ≤ g.toInt := by
      obtain ⟨D, hD⟩ : ∃ D, m.toInt ≤ DF p ocn lcn lpr lla lst opr oop odu oli P0 D := by
        rcases max_in (P := fun l => ix lpr l = p ∧ ix lst l = 0 ∧ 0 < (ix r' l).toInt) (key := fun l => (ix lla l).toInt) lcn with h | ⟨k, k0, k1, ⟨k2, k3, k4⟩, k5⟩
        · refine ⟨0, ?_⟩
          have a1 := s5 0 (Int.le_refl _)
          have a2 : TK p lcn lpr lla lst rest' r' 0 = zS (fun l => if FT p lpr lla lst 0 l then (ix P0 l).toInt else 0) lcn.toNatClampNeg := by
            refine zS_eq fun l l0 l1 => ?_
            by_cases hf : FT p lpr lla lst 0 l
            · rw [if_pos hf, if_pos hf, c2 l l0 l1]
              have b1 := (s3 l l0 l1).1
              have b2 : ¬ 0 < (ix r' l).toInt := fun z => h l l0 l1 ⟨hf.1, hf.2.1, z⟩
              omega
            · rw [if_neg hf, if_neg hf]
          rw [a2, perm] at a1
          exact a1
        · refine ⟨(ix lla k).toInt + 1, ?_⟩
          have a1 := s6 k k0 k1 k2 k3 k4
          have a2 : TK p lcn lpr lla lst rest' r' ((ix lla k).toInt + 1) = zS (fun l => if FT p lpr lla lst ((ix lla k).toInt + 1) l then (ix P0 l).toInt else 0) lcn.toNatClampNeg := by
            refine zS_eq fun l l0 l1 => ?_
            by_cases hf : FT p lpr lla lst ((ix lla k).toInt + 1) l
            · rw [if_pos hf, if_pos hf, c2 l l0 l1]
              have b1 := (s3 l l0 l1).1
              have b2 : ¬ 0 < (ix r' l).toInt := fun z => by
                have := k5 l l0 l1 ⟨hf.1, hf.2.1, z⟩
                have := hf.2.2
                omega
              omega
            · rw [if_neg hf, if_neg hf]
          rw [a2, perm] at a1
          exact a1
      have FTn : 0 ≤ zS (fun l => if FT p lpr lla lst D l then (ix P0 l).toInt else 0) lcn.toNatClampNeg := zS_nn fun l l0 l1 => by
        have := (hr l l0 l1).1
        by_cases h : FT p lpr lla lst D l
        · rw [if_pos h]; exact this
        · rw [if_neg h]; exact Int.le_refl _
      rcases max_in (P := fun o => ix opr o = p ∧ D ≤ WD odu oli o) (key := fun o => - WD odu oli o) ocn with h | ⟨k, k0, k1, ⟨k2, k3⟩, k4⟩
      · have : zS (OF p opr oop odu oli D) ocn.toNatClampNeg = 0 := by
          rw [zS_eq (G := fun _ => 0) (fun o o0 o1 => if_neg (h o o0 o1)), zS_0]
        unfold DF at hD
        omega
      · have a1 := g3 k k0 k1 k2
        have a2 : zS (OF p opr oop odu oli D) ocn.toNatClampNeg = zS (OF p opr oop odu oli (WD odu oli k)) ocn.toNatClampNeg := by
          refine zS_eq fun o o0 o1 => ?_
          by_cases h : ix opr o = p ∧ D ≤ WD odu oli o
          · have e1 : OF p opr oop odu oli D o = (ix oop o).toInt := if_pos h
            have e2 : OF p opr oop odu oli (WD odu oli k) o = (ix oop o).toInt := if_pos ⟨h.1, by have := k4 o o0 o1 h; omega⟩
            rw [e1, e2]
          · have e1 : OF p opr oop odu oli D o = 0 := if_neg h
            have e2 : OF p opr oop odu oli (WD odu oli k) o = 0 := if_neg fun z => h ⟨z.1, by have := z.2; omega⟩
            rw [e1, e2]
        have a3 : zS (fun l => if FT p lpr lla lst (WD odu oli k) l then (ix P0 l).toInt else 0) lcn.toNatClampNeg ≤ zS (fun l => if FT p lpr lla lst D l then (ix P0 l).toInt else 0) lcn.toNatClampNeg := by
          refine zS_le fun l l0 l1 => ?_
          have := (hr l l0 l1).1
          by_cases h : FT p lpr lla lst (WD odu oli k) l
          · rw [if_pos h, if_pos ⟨h.1, h.2.1, by have := h.2.2; omega⟩]; exact Int.le_refl _
          · rw [if_neg h]
            by_cases h2 : FT p lpr lla lst D l
            · rw [if_pos h2]; exact this
            · rw [if_neg h2]; exact Int.le_refl _
        unfold DF at hD a1
        omega
    have : g = m := by rw [i_eq]; omega
    rw [this]
theorem bnd10_s {α1 α2 α3 α4 α5 α6 α7 α8 α9 α10 δ : Type} {a : α1} {b : α2} {c : α3} {d : α4} {e : α5} {x : α6} {y : α7} {z : α8} {u : α9} {v : α10} {f : α1 → α2 → α3 → α4 → α5 → α6 → α7 → α8 → α9 → α10 → Option δ} : bnd10 (some (a, b, c, d, e, x, y, z, u, v)) f = f a b c d e x y z u v := rfl
theorem bnd6_s {α1 α2 α3 α4 α5 α6 δ : Type} {a : α1} {b : α2} {c : α3} {d : α4} {e : α5} {x : α6} {f : α1 → α2 → α3 → α4 → α5 → α6 → Option δ} : bnd6 (some (a, b, c, d, e, x)) f = f a b c d e x := rfl
theorem p_errors {tod prods lan pos rom gp plc lcn ocn gif : Int32} {pkd : Int64} {bks trm plot ppc pmk pbd lpr lla lco lst lbl ocu opr oop odu oli obd oha ost crest w pt lo hi act : Nat → Int32} {bo co : Nat → Int64}
    (hD : QD tod prods lan pos rom gp plc lcn ocn w) (hP : QP plc rom lcn plot ppc pmk w) (hL : QL lcn prods lpr lla lco lst w) (hLs : QLs lcn lla lbl) (hO : QO ocn prods ocu opr oop odu oli w) (hOs : QLs ocn odu obd) (hT : QT trm w) (hA : QA plc bks ppc) (hPL : PL pt lo hi bo co act) :
    ∃ pt' lo' hi' bo' co' act' r', f_X7_errors prods bks trm plc pkd plot ppc pmk pbd lcn lpr lla lst lbl ocn gif opr oop odu oli obd oha ost pt lo hi bo co act crest = some (0, pkd, plot, ppc, pmk, gif, oop, oha, ost, pt', lo', hi', bo', co', act', r') ∧ PL pt' lo' hi' bo' co' act' := by
  have z0 : (0 : Int32).toInt = 0 := rfl
  obtain ⟨hTT, hX⟩ := QT_TT hT
  obtain ⟨d0, d1, d2, d3, d4, d5, d6, d7, d8, d9, d10, d11, d12, d13, d14, d15, d16, d17, d18, d19, d20, d21, d22, d23, d24, d25, d26⟩ := hD
  have hw : w 1 * w 2 = plc := by rw [d3, d6, d15]
  have p0 : 0 ≤ plc := by rw [i_le] at d16 ⊢; rw [show (1 : Int32).toInt = 1 from rfl] at d16; rw [z0]; omega
  have e0 : ∀ l : Int32, 0 ≤ l → ix (fun k => pof plc plot ppc (Int32.ofNat k)) l = pof plc plot ppc l := fun l l0 => by
    show pof plc plot ppc (Int32.ofNat l.toNatClampNeg) = _
    rw [of_tn l0]
  have hc : ∀ rest, ∃ rest', f_X5_countLots plc plot ppc rest = some rest' ∧ ∀ l : Int32, 0 ≤ l → l < lcn → ix rest' l = ix (fun k => pof plc plot ppc (Int32.ofNat k)) l := fun rest => by
    obtain ⟨rest', c1, c2⟩ := count_pof hw d16 d17 d23 hP rest
    refine ⟨rest', c1, fun l l0 l1 => ?_⟩
    rw [e0 l l0]
    exact c2 l l0 (Int32.lt_of_lt_of_le l1 d23)
  have hr : ∀ l : Int32, 0 ≤ l → l < lcn → 0 ≤ (ix (fun k => pof plc plot ppc (Int32.ofNat k)) l).toInt ∧ (ix (fun k => pof plc plot ppc (Int32.ofNat k)) l).toInt ≤ 960 := fun l l0 l1 => by
    rw [e0 l l0]
    exact pof_rng p0 d17 d11 d10 hP
  have hla : ∀ l : Int32, 0 ≤ l → l < lcn → 0 ≤ (ix lla l).toInt := fun l l0 l1 => by
    obtain ⟨-, -, -, -, q, -⟩ := hL l l0 l1
    exact i_le.mp q
  have hle : ∀ p crest, ∃ m r', f_X7_leftOpen p plc pkd plot ppc pmk pbd lcn lpr lla lst lbl ocn gif opr oop odu oli obd oha ost crest = some (m, pkd, plot, ppc, pmk, gif, oop, oha, ost, r') ∧ ∀ rest, ∃ r'', f_X7_greatestLack p plc plot ppc lcn lpr lla lst ocn opr oop odu oli rest = some (m, r'') := fun p crest => left_lack d22 d23 d25 d26 hLs hO hOs hla hc hr
  have pr := i_le.mp d20
  rw [show (6 : Int32).toInt = 6 from rfl] at pr
  obtain ⟨e, q1, r', q2⟩ := lp_one (f := fun z : Int32 × Int32 × Int64 × (Nat → Int32) × (Nat → Int32) × (Nat → Int32) × Int32 × (Nat → Int32) × (Nat → Int32) × (Nat → Int32) × (Nat → Int32) => f_X7_errors_L4 prods bks trm plc pbd lcn lpr lla lst lbl ocn opr odu oli obd pt lo hi bo co act z.1 z.2.1 z.2.2.1 z.2.2.2.1 z.2.2.2.2.1 z.2.2.2.2.2.1 z.2.2.2.2.2.2.1 z.2.2.2.2.2.2.2.1 z.2.2.2.2.2.2.2.2.1 z.2.2.2.2.2.2.2.2.2.1 z.2.2.2.2.2.2.2.2.2.2)
    (fun z => ∃ r, z = (0, z.2.1, pkd, plot, ppc, pmk, gif, oop, oha, ost, r) ∧ z.2.1 ≤ prods) (fun e => ∃ r, e = (0, pkd, plot, ppc, pmk, gif, oop, oha, ost, r)) (fun z => msr z.2.1 prods) (by
    rintro ⟨a, n, pk2, a2, b2, c2, g2, op2, oh2, os2, r2⟩ ⟨r, h0, h1⟩
    dsimp only at h0 h1
    rw [h0]
    dsimp only
    unfold f_X7_errors_L4 f_X7_errors_L4_J31
    by_cases hn : prods ≤ n
    · right
      rw [if_pos hn]
      exact ⟨_, rfl, r, rfl⟩
    · left
      have nl : n < prods := Int32.not_le.mp hn
      obtain ⟨m, r1, s1, s2⟩ := hle n r
      obtain ⟨r3, s3⟩ := s2 r1
      rw [if_neg hn, s1]
      simp only [bnd10, Option.bind_some]
      rw [s3]
      simp only [bnd2, Option.bind_some, ↓reduceIte]
      have ni := i_lt.mp nl
      have n1 : (n + 1).toInt = n.toInt + 1 := i_inc (by omega)
      exact ⟨_, rfl, ⟨r3, rfl, by rw [i_le, n1]; omega⟩, msr_lt nl⟩) fu (0, 0, pkd, plot, ppc, pmk, gif, oop, oha, ost, crest) ⟨crest, rfl, d19⟩ (msr_fu (by dsimp only; decide) (by rw [i_lt, show (90000 : Int32).toInt = 90000 from rfl]; omega))
  obtain ⟨oh, A1, A2⟩ := hA
  have hb : f_X7_doBooksAddUp bks plc ppc = some 1 := by
    unfold f_X7_doBooksAddUp
    rw [gd_6 (by decide) (by decide), gd_6 (by decide) (by decide), gd_6 (by decide) (by decide), gd_6 (by decide) (by decide), gd_6 (by decide) (by decide), gd_6 (by decide) (by decide), A1, bnd1_s]
    exact if_pos A2
  obtain ⟨pt', lo', hi', bo', co', act', s1, s2, s3, s4, s5⟩ := s_solve hPL hTT
  have st := s_stray s5 s3
  refine ⟨pt', lo', hi', bo', co', act', r', ?_, s4⟩
  unfold f_X7_errors f_X7_errors_J47
  rw [q1, q2, bnd10_s, hb, bnd1_s, if_neg one_ne, s1, bnd6_s, st, bnd1_s]
  rfl
set_option maxRecDepth 4000 in
theorem cs_48 (cp1_acts : Int32) (cp1_nextSlot : Int32) (cp1_now_today : Int32) (cp1_now_products : Int32) (cp1_now_itemCount : Int32) (cp1_now_items : Nat → Int32) (cp1_now_books : Nat → Int32) (cp1_now_terms : Nat → Int32) (cp1_now_shelves_lanes : Int32) (cp1_now_shelves_positions : Int32) (cp1_now_shelves_room : Int32) (cp1_now_shelves_gap : Int32) (cp1_now_shelves_places : Int32) (cp1_now_shelves_picked : Int64) (cp1_now_shelves_lot : Nat → Int32) (cp1_now_shelves_pieces : Nat → Int32) (cp1_now_shelves_mark : Nat → Int32) (cp1_now_shelves_byDistance : Nat → Int32) (cp1_now_lots_count : Int32) (cp1_now_lots_product : Nat → Int32) (cp1_now_lots_last : Nat → Int32) (cp1_now_lots_cost : Nat → Int32) (cp1_now_lots_state : Nat → Int32) (cp1_now_lots_byLast : Nat → Int32) (cp1_now_orders_count : Int32) (cp1_now_orders_gifts : Int32) (cp1_now_orders_customer : Nat → Int32) (cp1_now_orders_product : Nat → Int32) (cp1_now_orders_open : Nat → Int32) (cp1_now_orders_due : Nat → Int32) (cp1_now_orders_life : Nat → Int32) (cp1_now_orders_byDue : Nat → Int32) (cp1_now_orders_had : Nat → Int32) (cp1_now_orders_stamps : Nat → Int32) (cp1_hk : Nat) (cp1_st : Nat → StT) (cp1_plan_terms : Nat → Int32) (cp1_plan_low : Nat → Int32) (cp1_plan_high : Nat → Int32) (cp1_plan_bottom : Nat → Int64) (cp1_plan_cost : Nat → Int64) (cp1_plan_act : Nat → Int32) (cp1_picker_deepest : Int32) (cp1_picker_shallowest : Int32) (cp1_picker_widest : Int32) (cp1_picker_least : Nat → Int32) (cp1_picker_next : Nat → Int32) (cp1_rest : Nat → Int32) (cp1_packed : Nat → Int32) (cp2_raised : Int32) (cp2_undos : Int32) (cp2_eldest : Int32) (cp2_w : Nat → Int32) (cp2_kept : Nat → Int32) (cp2_copy : Nat → Int32) (cp2_near : Nat → Int32) (cp2_isDone : Nat → Int32) (cp2_lane : Nat → Int32) (cp2_position : Nat → Int32) (cp2_least : Nat → Int32) (cp2_boxesOf : Nat → Int32) (cp2_staying : Nat → Int64) (cp2_planned : Nat → Int64) (cp2_scale : Nat → Int64) (cp3 : Nat → Int64) (v1 v2 v3 v4 v5 : Int32) (hR : RC PL (cp1_now_today, cp1_now_products, cp1_now_itemCount, cp1_now_items, cp1_now_books, cp1_now_terms, cp1_now_shelves_lanes, cp1_now_shelves_positions, cp1_now_shelves_room, cp1_now_shelves_gap, cp1_now_shelves_places, cp1_now_shelves_picked, cp1_now_shelves_lot, cp1_now_shelves_pieces, cp1_now_shelves_mark, cp1_now_shelves_byDistance, cp1_now_lots_count, cp1_now_lots_product, cp1_now_lots_last, cp1_now_lots_cost, cp1_now_lots_state, cp1_now_lots_byLast, cp1_now_orders_count, cp1_now_orders_gifts, cp1_now_orders_customer, cp1_now_orders_product, cp1_now_orders_open, cp1_now_orders_due, cp1_now_orders_life, cp1_now_orders_byDue, cp1_now_orders_had, cp1_now_orders_stamps) cp2_w cp2_near cp1_acts cp1_nextSlot cp1_hk cp1_st cp2_undos cp2_eldest cp2_kept cp1_plan_terms cp1_plan_low cp1_plan_high cp1_plan_bottom cp1_plan_cost cp1_plan_act) : ∃ z', f_c48 v1 v2 v3 v4 v5 (cp1_acts, cp1_nextSlot, cp1_now_today, cp1_now_products, cp1_now_itemCount, cp1_now_items, cp1_now_books, cp1_now_terms, cp1_now_shelves_lanes, cp1_now_shelves_positions, cp1_now_shelves_room, cp1_now_shelves_gap, cp1_now_shelves_places, cp1_now_shelves_picked, cp1_now_shelves_lot, cp1_now_shelves_pieces, cp1_now_shelves_mark, cp1_now_shelves_byDistance, cp1_now_lots_count, cp1_now_lots_product, cp1_now_lots_last, cp1_now_lots_cost, cp1_now_lots_state, cp1_now_lots_byLast, cp1_now_orders_count, cp1_now_orders_gifts, cp1_now_orders_customer, cp1_now_orders_product, cp1_now_orders_open, cp1_now_orders_due, cp1_now_orders_life, cp1_now_orders_byDue, cp1_now_orders_had, cp1_now_orders_stamps, cp1_hk, cp1_st, cp1_plan_terms, cp1_plan_low, cp1_plan_high, cp1_plan_bottom, cp1_plan_cost, cp1_plan_act, cp1_picker_deepest, cp1_picker_shallowest, cp1_picker_widest, cp1_picker_least, cp1_picker_next, cp1_rest, cp1_packed, cp2_raised, cp2_undos, cp2_eldest, cp2_w, cp2_kept, cp2_copy, cp2_near, cp2_isDone, cp2_lane, cp2_position, cp2_least, cp2_boxesOf, cp2_staying, cp2_planned, cp2_scale, cp3) = some z' ∧ R PL z' := by
  have hS := hR.1
  rw [RS_mk] at hS
  obtain ⟨a1, a2, a3, a4, a5, a6, a7, a8, a9, a10, a11, a12, a13, a14, a15⟩ := hS
  obtain ⟨pt', lo', hi', bo', co', act', r', h1, h2⟩ := p_errors (pkd := cp1_now_shelves_picked) (pbd := cp1_now_shelves_byDistance) (gif := cp1_now_orders_gifts) (oha := cp1_now_orders_had) (ost := cp1_now_orders_stamps) (crest := cp1_rest) a1 a3 a5 a6 a7 a8 a13 a14 hR.2.2.2
  refine ⟨?w, ?h1, ?h2⟩
  case h1 =>
    rw [fc_48, h1]
    simp only [bnd16, bnd2, Option.bind_some, f_Y8_errors, ↓reduceIte]
    rfl
  case h2 => rw [R_mk]; exact ⟨hR.1, hR.2.1, hR.2.2.1, h2⟩
