/-! ===== plans as whole numbers ===== -/
/-- the ten terms: weights of wants, the cost of an order, of a piece, of holding, of a piece that is missing, and the cap -/
def TT (t : Nat → Int) : Prop := (∀ i, i < 5 → 0 ≤ t i ∧ t i ≤ 9) ∧ 1 ≤ t 0 + t 1 + t 2 + t 3 + t 4 ∧ 0 ≤ t 5 ∧ t 5 ≤ 99 ∧ 0 ≤ t 6 ∧ t 6 ≤ 20 ∧ 0 ≤ t 7 ∧ t 7 ≤ 20 ∧ t 6 + 1 ≤ t 8 ∧ t 8 ≤ 60 ∧ 0 ≤ t 9 ∧ t 9 ≤ 20
def sw (t : Nat → Int) : Int := t 0 + t 1 + t 2 + t 3 + t 4
def Sc (t : Nat → Int) : Nat → Int
  | 0 => 1
  | n + 1 => Sc t n * sw t
def wsum (t : Nat → Int) (g : Nat → Int) : Nat → Int
  | 0 => 0
  | j + 1 => wsum t g j + t j * g j
def pay (t : Nat → Int) (y : Int) : Int := if 0 < y then t 7 * y else t 8 * (-y)
/-- what n + 1 periods cost if nothing is ordered, times Sc (n + 1) -/
def stI (t : Nat → Int) (n : Nat) (f : Int → Int) (y : Int) : Int := wsum t (fun i => pay t (y - i) * Sc t n + f (y - i)) 5
def Gg (t : Nat → Int) (n : Nat) (f : Int → Int) (y : Int) : Int := stI t n f y + t 6 * Sc t (n + 1) * y
/-- the least of the best levels of those from cap - k on -/
def tg (G : Int → Int) (cap : Int) : Nat → Int
  | 0 => cap
  | k + 1 => if G (cap - (k + 1 : Nat)) ≤ G (tg G cap k) then cap - (k + 1 : Nat) else tg G cap k
def orI (t : Nat → Int) (n : Nat) (f : Int → Int) (y : Int) : Int := t 5 * Sc t (n + 1) + Gg t n f (tg (Gg t n f) (t 9) (t 9 - y - 1).toNat) - t 6 * Sc t (n + 1) * y
abbrev isO (t : Nat → Int) (n : Nat) (f : Int → Int) (y : Int) : Prop := y < t 9 ∧ orI t n f y < stI t n f y
def pl (t : Nat → Int) : Nat → Int → Int
  | 0, _ => 0
  | n + 1, y => if isO t n (pl t n) y then orI t n (pl t n) y else stI t n (pl t n) y
def ac (t : Nat → Int) (n : Nat) (y : Int) : Int := if isO t n (pl t n) y then tg (Gg t n (pl t n)) (t 9) (t 9 - y - 1).toNat else y
theorem sw_rng {t : Nat → Int} (h : TT t) : 1 ≤ sw t ∧ sw t ≤ 45 := by
  obtain ⟨h1, h2, -⟩ := h
  have a := h1 0 (by omega)
  have b := h1 1 (by omega)
  have c := h1 2 (by omega)
  have d := h1 3 (by omega)
  have e := h1 4 (by omega)
  unfold sw; omega
theorem Sc_rng {t : Nat → Int} (h : TT t) : ∀ n : Nat, n ≤ 5 → 1 ≤ Sc t n ∧ Sc t n ≤ 45 ^ n := by
  obtain ⟨s1, s2⟩ := sw_rng h
  intro n
  induction n with
  | zero => intro _; unfold Sc; exact ⟨by omega, by omega⟩
  | succ n ih =>
    intro hn
    obtain ⟨a, b⟩ := ih (by omega)
    unfold Sc
    have m1 : 1 * 1 ≤ Sc t n * sw t := Int.mul_le_mul a s1 (by omega) (by omega)
    have m2 : Sc t n * sw t ≤ 45 ^ n * 45 := Int.mul_le_mul b s2 (by omega) (by omega)
    exact ⟨by omega, by rw [Int.pow_succ]; exact m2⟩
theorem Sc_le {t : Nat → Int} (h : TT t) {n : Nat} (hn : n ≤ 5) : 1 ≤ Sc t n ∧ Sc t n ≤ 184528125 := by
  obtain ⟨a, b⟩ := Sc_rng h n hn
  refine ⟨a, Int.le_trans b ?_⟩
  have : n = 0 ∨ n = 1 ∨ n = 2 ∨ n = 3 ∨ n = 4 ∨ n = 5 := by omega
  rcases this with rfl | rfl | rfl | rfl | rfl | rfl <;> decide
theorem ws_rng {t g : Nat → Int} {B : Int} (h : ∀ i, i < 5 → 0 ≤ t i ∧ t i ≤ 9) (hB : 0 ≤ B) (hg : ∀ i, i < 5 → 0 ≤ g i ∧ g i ≤ B) : ∀ j : Nat, j ≤ 5 → 0 ≤ wsum t g j ∧ wsum t g j ≤ 9 * B * j := by
  intro j
  induction j with
  | zero => intro _; unfold wsum; omega
  | succ j ih =>
    intro hj
    obtain ⟨a, b⟩ := ih (by omega)
    obtain ⟨t1, t2⟩ := h j (by omega)
    obtain ⟨g1, g2⟩ := hg j (by omega)
    have m1 : 0 ≤ t j * g j := Int.mul_nonneg t1 g1
    have m2 : t j * g j ≤ 9 * B := Int.mul_le_mul t2 g2 g1 (by omega)
    unfold wsum
    refine ⟨by omega, ?_⟩
    rw [Int.natCast_add, Int.mul_add]
    simp only [Int.natCast_one, Int.mul_one]
    omega
theorem ws_le {t g : Nat → Int} {B : Int} (h : ∀ i, i < 5 → 0 ≤ t i ∧ t i ≤ 9) (hg : ∀ i, i < 5 → g i ≤ B) : wsum t g 5 ≤ B * sw t := by
  have m : ∀ i, i < 5 → t i * g i ≤ t i * B := fun i hi => Int.mul_le_mul_of_nonneg_left (hg i hi) (h i hi).1
  have a := m 0 (by omega)
  have b := m 1 (by omega)
  have c := m 2 (by omega)
  have d := m 3 (by omega)
  have e := m 4 (by omega)
  have s : B * sw t = t 0 * B + t 1 * B + t 2 * B + t 3 * B + t 4 * B := by
    unfold sw
    rw [Int.mul_comm, Int.add_mul, Int.add_mul, Int.add_mul, Int.add_mul]
  rw [s]
  simp only [wsum]
  omega
theorem pay_rng {t : Nat → Int} (h : TT t) {y : Int} (y0 : -40 ≤ y) (y1 : y ≤ 20) : 0 ≤ pay t y ∧ pay t y ≤ 2400 := by
  obtain ⟨-, -, -, -, h6, -, h7, h7', h8, h8', -, -⟩ := h
  unfold pay
  by_cases z : 0 < y
  · rw [if_pos z]
    exact ⟨Int.mul_nonneg h7 (by omega), Int.le_trans (Int.mul_le_mul h7' y1 (by omega) (by omega)) (by decide)⟩
  · rw [if_neg z]
    exact ⟨Int.mul_nonneg (by omega) (by omega), Int.le_trans (Int.mul_le_mul h8' (show -y ≤ 40 by omega) (by omega) (by omega)) (by decide)⟩
/-- the least level of n periods -/
def lw (n : Nat) : Int := -40 + 4 * n
theorem st_rng {t : Nat → Int} (h : TT t) {n : Nat} (hn : n < 5) {f : Int → Int} {B : Int} (hB : 0 ≤ B) (hf : ∀ y, lw n ≤ y → y ≤ t 9 → 0 ≤ f y ∧ f y ≤ B) {y : Int} (y0 : lw (n + 1) ≤ y) (y1 : y ≤ t 9) :
    (∀ i : Nat, i < 5 → 0 ≤ pay t (y - i) * Sc t n + f (y - i) ∧ pay t (y - i) * Sc t n + f (y - i) ≤ 2400 * Sc t n + B) ∧ 0 ≤ stI t n f y ∧ stI t n f y ≤ (2400 * Sc t n + B) * sw t := by
  obtain ⟨s1, s2⟩ := Sc_le h (n := n) (by omega)
  have hh := h
  obtain ⟨h1, -, -, -, -, -, -, -, -, -, c0, c1⟩ := hh
  have e : lw (n + 1) = lw n + 4 := by unfold lw; omega
  have l : -40 ≤ lw n := by unfold lw; omega
  have g : ∀ i : Nat, i < 5 → 0 ≤ pay t (y - i) * Sc t n + f (y - i) ∧ pay t (y - i) * Sc t n + f (y - i) ≤ 2400 * Sc t n + B := fun i hi => by
    obtain ⟨a, b⟩ := hf (y - i) (by omega) (by omega)
    obtain ⟨p1, p2⟩ := pay_rng h (y := y - i) (by omega) (by omega)
    have m1 : 0 ≤ pay t (y - i) * Sc t n := Int.mul_nonneg p1 (by omega)
    have m2 : pay t (y - i) * Sc t n ≤ 2400 * Sc t n := Int.mul_le_mul_of_nonneg_right p2 (by omega)
    exact ⟨by omega, by omega⟩
  exact ⟨g, (ws_rng h1 (B := 2400 * Sc t n + B) (by omega) g 5 (Nat.le_refl _)).1, ws_le h1 (fun i hi => (g i hi).2)⟩
/-- the running best: what it is -/
def LA (G : Int → Int) (lo hi z : Int) : Prop := lo ≤ z ∧ z ≤ hi ∧ ∀ x, lo ≤ x → x ≤ hi → G z < G x ∨ (G z = G x ∧ z ≤ x)
theorem LA_uniq {G : Int → Int} {lo hi z z' : Int} (h : LA G lo hi z) (h' : LA G lo hi z') : z = z' := by
  obtain ⟨a, b, c⟩ := h
  obtain ⟨a', b', c'⟩ := h'
  have u := c z' a' b'
  have v := c' z a b
  omega
theorem tg_LA {G : Int → Int} {cap : Int} : ∀ k : Nat, LA G (cap - k) cap (tg G cap k) := by
  intro k
  induction k with
  | zero =>
    refine ⟨by unfold tg; omega, by unfold tg; omega, fun x x0 x1 => ?_⟩
    have e : x = cap := by omega
    rw [e]
    exact Or.inr ⟨rfl, Int.le_refl _⟩
  | succ k ih =>
    obtain ⟨a, b, c⟩ := ih
    unfold tg
    by_cases h : G (cap - (k + 1 : Nat)) ≤ G (tg G cap k)
    · rw [if_pos h]
      refine ⟨Int.le_refl _, by omega, fun x x0 x1 => ?_⟩
      by_cases e : x = cap - (k + 1 : Nat)
      · rw [e]; exact Or.inr ⟨rfl, Int.le_refl _⟩
      · have := c x (by omega) x1
        omega
    · rw [if_neg h]
      refine ⟨by omega, b, fun x x0 x1 => ?_⟩
      by_cases e : x = cap - (k + 1 : Nat)
      · rw [e]; exact Or.inl (by omega)
      · exact c x (by omega) x1
theorem pl_rng {t : Nat → Int} (h : TT t) : ∀ n : Nat, n ≤ 5 → ∀ y, lw n ≤ y → y ≤ t 9 → 0 ≤ pl t n y ∧ pl t n y ≤ 2400 * n * Sc t n := by
  have hh := h
  obtain ⟨h1, -, h5, -, h6, -, -, -, -, -, c0, c1⟩ := hh
  intro n
  induction n with
  | zero => intro _ y _ _; unfold pl; exact ⟨Int.le_refl _, by omega⟩
  | succ n ih =>
    intro hn y y0 y1
    have S0 := (Sc_le h (n := n) (by omega)).1
    have S1 := (Sc_le h (n := n + 1) (by omega)).1
    have B0 : 0 ≤ 2400 * (n : Int) * Sc t n := Int.mul_nonneg (by omega) (by omega)
    have sr := fun {x : Int} (x0 : lw (n + 1) ≤ x) (x1 : x ≤ t 9) => (st_rng h (n := n) (by omega) B0 (ih (by omega)) x0 x1).2
    have eb : (2400 * Sc t n + 2400 * (n : Int) * Sc t n) * sw t = 2400 * ((n + 1 : Nat) : Int) * Sc t (n + 1) := by
      show _ = 2400 * ((n + 1 : Nat) : Int) * (Sc t n * sw t)
      rw [← Int.mul_assoc]
      congr 1
      rw [Int.natCast_add, Int.mul_add, Int.add_mul]
      simp only [Int.natCast_one, Int.mul_one]
      omega
    obtain ⟨a, b⟩ := sr y0 y1
    rw [eb] at b
    unfold pl
    by_cases o : isO t n (pl t n) y
    · rw [if_pos o]
      refine ⟨?_, Int.le_of_lt (Int.lt_of_lt_of_le o.2 b)⟩
      have yc := o.1
      obtain ⟨z1, z2, -⟩ := tg_LA (G := Gg t n (pl t n)) (cap := t 9) (t 9 - y - 1).toNat
      have z3 : y + 1 ≤ tg (Gg t n (pl t n)) (t 9) (t 9 - y - 1).toNat := by omega
      unfold orI
      generalize tg (Gg t n (pl t n)) (t 9) (t 9 - y - 1).toNat = z at z2 z3
      obtain ⟨a', -⟩ := sr (x := z) (by omega) z2
      unfold Gg
      have m1 : 0 ≤ t 5 * Sc t (n + 1) := Int.mul_nonneg h5 (by omega)
      have m2 : 0 ≤ t 6 * Sc t (n + 1) * (z - y) := Int.mul_nonneg (Int.mul_nonneg h6 (by omega)) (by omega)
      rw [Int.mul_sub] at m2
      omega
    · rw [if_neg o]; exact ⟨a, b⟩
theorem i64_sub {a b : Int64} (h1 : -9000000000000000000 ≤ a.toInt - b.toInt) (h2 : a.toInt - b.toInt ≤ 9000000000000000000) : (a - b).toInt = a.toInt - b.toInt := by
  rw [Int64.toInt_sub]
  exact Int.bmod_eq_of_le (by omega) (by omega)
theorem i64_lt {a b : Int64} : a < b ↔ a.toInt < b.toInt := Int64.lt_iff_toInt_lt
theorem i64_eq {a b : Int64} : a = b ↔ a.toInt = b.toInt := ⟨fun h => by rw [h], fun h => Int64.toInt_inj.mp h⟩
theorem lg_lt {a b : Int64} : (0 < lg_cmp a b ↔ b.toInt < a.toInt) ∧ (0 ≤ lg_cmp a b ↔ b.toInt ≤ a.toInt) ∧ (lg_cmp a b = 0 ↔ a.toInt = b.toInt) := by
  unfold lg_cmp
  by_cases h : a > b
  · have h' : b.toInt < a.toInt := i64_lt.mp h
    rw [if_pos h]
    exact ⟨⟨fun _ => h', fun _ => by decide⟩, ⟨fun _ => by omega, fun _ => by decide⟩, ⟨fun z => absurd z (by decide), fun z => by omega⟩⟩
  · have h' : ¬ b.toInt < a.toInt := fun z => h (i64_lt.mpr z)
    rw [if_neg h]
    by_cases e : a = b
    · rw [if_pos e]
      have e' := i64_eq.mp e
      exact ⟨⟨fun z => absurd z (by decide), fun z => by omega⟩, ⟨fun _ => by omega, fun _ => by decide⟩, ⟨fun _ => e', fun _ => rfl⟩⟩
    · rw [if_neg e]
      have e' : ¬ a.toInt = b.toInt := fun z => e (i64_eq.mpr z)
      exact ⟨⟨fun z => absurd z (by decide), fun z => by omega⟩, ⟨fun z => absurd z (by decide), fun z => by omega⟩, ⟨fun z => absurd z (by decide), fun z => absurd z e'⟩⟩
def cl (n : Nat) (y : Int) : Nat := 61 * n + (y + 40).toNat
def tI (trm : Nat → Int32) : Nat → Int := fun i => (trm i).toInt
theorem cl_ne {n m : Nat} {x y : Int} (x0 : -40 ≤ x) (x1 : x ≤ 20) (y0 : -40 ≤ y) (y1 : y ≤ 20) (h : ¬ (n = m ∧ x = y)) : cl n x ≠ cl m y := by
  unfold cl; omega
theorem n_cell {n : Nat} {v : Int32} (hn : n ≤ 5) (v0 : -40 ≤ v.toInt) (v1 : v.toInt ≤ 20) : f_X4_cell (Int32.ofNat n) v = some (Int32.ofNat (cl n v.toInt)) := by
  have en := (on_k (k := n) (by omega)).2.1
  have e5 : ¬ (5 : Int32) < Int32.ofNat n := fun z => by
    have := (on_lt (k := 5) (m := n) (by omega) (by omega)).mp z
    omega
  have e40 : (v - (-40)).toInt = v.toInt + 40 := by
    rw [i_sub (by show _ ≤ _ - (-40 : Int); omega) (by show _ - (-40 : Int) ≤ _; omega)]; show _ - (-40 : Int) = _; omega
  have a1 : (if 0 < (if (5 : Int32) < Int32.ofNat n then 5 else Int32.ofNat n) then (if (5 : Int32) < Int32.ofNat n then 5 else Int32.ofNat n) else 0) = Int32.ofNat n := by
    rw [if_neg e5]
    by_cases z : 0 < Int32.ofNat n
    · rw [if_pos z]
    · rw [if_neg z]
      have : ¬ 0 < n := fun y => z ((on_lt (k := 0) (m := n) (by omega) (by omega)).mpr y)
      have : n = 0 := by omega
      rw [this]; rfl
  have a2 : (if 0 < (if (60 : Int32) < v - (-40) then 60 else v - (-40)) then (if (60 : Int32) < v - (-40) then 60 else v - (-40)) else 0) = v - (-40) := by
    have z : ¬ (60 : Int32) < v - (-40) := by rw [i_lt, e40, show (60 : Int32).toInt = 60 from rfl]; omega
    rw [if_neg z]
    by_cases z : 0 < v - (-40)
    · rw [if_pos z]
    · rw [if_neg z]
      rw [i_lt, e40, show (0 : Int32).toInt = 0 from rfl] at z
      rw [i_eq, e40, show (0 : Int32).toInt = 0 from rfl]; omega
  unfold f_X4_cell
  rw [a1, a2]
  congr 1
  have e61 : (61 : Int32).toInt = 61 := rfl
  have m : (Int32.ofNat n * 61).toInt = n * 61 := by rw [i_mul (by rw [en, e61]; omega) (by rw [en, e61]; omega), en, e61]
  rw [i_eq, i_add (by rw [m, e40]; omega) (by rw [m, e40]; omega), m, e40, (on_k (k := cl n v.toInt) (by unfold cl; omega)).2.1]
  unfold cl; omega
theorem n_cellOf {n : Nat} {v : Int32} (hn : n ≤ 5) (v0 : -40 ≤ v.toInt) (v1 : v.toInt ≤ 20) : f_Y8_cellOf (Int32.ofNat n) v = some (Int32.ofNat (cl n v.toInt)) := by
  have en := (on_k (k := n) (by omega)).2.1
  unfold f_Y8_cellOf
  congr 1
  have e61 : (61 : Int32).toInt = 61 := rfl
  have e40 : (40 : Int32).toInt = 40 := rfl
  have m : (61 * Int32.ofNat n).toInt = 61 * n := by rw [i_mul (by rw [en, e61]; omega) (by rw [en, e61]; omega), en, e61]
  have a : (61 * Int32.ofNat n + v).toInt = 61 * n + v.toInt := by rw [i_add (by rw [m]; omega) (by rw [m]; omega), m]
  rw [i_eq, i_add (by rw [a, e40]; omega) (by rw [a, e40]; omega), a, e40, (on_k (k := cl n v.toInt) (by unfold cl; omega)).2.1]
  unfold cl; omega
theorem cl_rng {n : Nat} {y : Int} (hn : n ≤ 5) (y0 : -40 ≤ y) (y1 : y ≤ 20) : (Int32.ofNat (cl n y)).toNatClampNeg = cl n y ∧ 0 ≤ Int32.ofNat (cl n y) ∧ Int32.ofNat (cl n y) < 366 ∧ cl n y < 366 := by
  have : cl n y < 366 := by unfold cl; omega
  exact ⟨(on_k (by omega)).1, (on_k (by omega)).2.2, (on_lt (k := cl n y) (m := 366) (by omega) (by omega)).mpr this, this⟩
theorem on_sub1 {n : Nat} : Int32.ofNat (n + 1) - 1 = Int32.ofNat n := by
  rw [← on_inc, Int32.add_sub_cancel]
/-- a period's costs without an order, of the class -/
theorem n_stay {trm : Nat → Int32} {bo co : Nat → Int64} {n : Nat} {v : Int32} (hT : TT (tI trm)) (hn : n < 5) (hb : (bo n).toInt = Sc (tI trm) n) (hc : ∀ y, lw n ≤ y → y ≤ tI trm 9 → (co (cl n y)).toInt = pl (tI trm) n y) (v0 : lw (n + 1) ≤ v.toInt) (v1 : v.toInt ≤ tI trm 9) :
    ∃ r, f_X4_stayCost (Int32.ofNat (n + 1)) v trm bo co = some r ∧ r.toInt = stI (tI trm) n (pl (tI trm) n) v.toInt := by
  have S1 := Sc_le hT (n := n) (by omega)
  have pr := pl_rng hT n (by omega)
  have hh := hT
  obtain ⟨h1, -, -, -, h6, -, h7, h7', h8, h8', c0, c1⟩ := hh
  have B1 : 0 ≤ 2400 * (n : Int) * Sc (tI trm) n := Int.mul_nonneg (by omega) (by omega)
  have B2 : 2400 * (n : Int) * Sc (tI trm) n ≤ 2400 * 5 * 184528125 := Int.mul_le_mul (by omega) S1.2 (by omega) (by omega)
  obtain ⟨g1, -, -⟩ := st_rng hT hn B1 pr v0 v1
  have wr := ws_rng h1 (B := 2400 * Sc (tI trm) n + 2400 * (n : Int) * Sc (tI trm) n) (by omega) g1
  have lwn : lw (n + 1) = lw n + 4 := by unfold lw; omega
  have lw0 : -40 ≤ lw n := by unfold lw; omega
  obtain ⟨r, r1, r2⟩ := lp_one (f := fun z : Int64 × Int32 => f_X4_stayCost_L5 (Int32.ofNat (n + 1)) v trm bo co z.1 z.2)
    (fun z => ∃ j : Nat, z.2 = Int32.ofNat j ∧ j ≤ 5 ∧ z.1.toInt = wsum (tI trm) (fun i => pay (tI trm) (v.toInt - i) * Sc (tI trm) n + pl (tI trm) n (v.toInt - i)) j) (fun r => r.toInt = stI (tI trm) n (pl (tI trm) n) v.toInt) (fun z => msr z.2 5) (by
    rintro ⟨b, k⟩ ⟨j, q1, q2, q3⟩
    dsimp only at q1 q2 q3 ⊢
    subst q1
    unfold f_X4_stayCost_L5
    by_cases hj : 5 ≤ j
    · right
      rw [if_pos (show (5 : Int32) ≤ Int32.ofNat j from (on_le (k := 5) (m := j) (by omega) (by omega)).mpr hj)]
      have : j = 5 := by omega
      subst this
      exact ⟨b, rfl, q3⟩
    · left
      have ej := (on_k (k := j) (by omega)).2.1
      have eL : (v - Int32.ofNat j).toInt = v.toInt - j := by rw [i_sub (by rw [ej]; omega) (by rw [ej]; omega), ej]
      have nj : ¬ (5 : Int32) ≤ Int32.ofNat j := fun z => hj ((on_le (k := 5) (m := j) (by omega) (by omega)).mp z)
      have lo : -40 ≤ (v - Int32.ofNat j).toInt := by rw [eL]; omega
      have hi : (v - Int32.ofNat j).toInt ≤ 20 := by rw [eL]; omega
      obtain ⟨k1, k2, k3, k4⟩ := cl_rng (n := n) (y := (v - Int32.ofNat j).toInt) (by omega) lo hi
      have hcj : (co (cl n (v - Int32.ofNat j).toInt)).toInt = pl (tI trm) n (v.toInt - j) := by rw [eL]; exact hc _ (by omega) (by omega)
      have prj := pr (v.toInt - j) (by omega) (by omega)
      have par := pay_rng hT (y := v.toInt - j) (by omega) (by omega)
      have m1 : 0 ≤ pay (tI trm) (v.toInt - j) * Sc (tI trm) n := Int.mul_nonneg par.1 (by omega)
      have m2 : pay (tI trm) (v.toInt - j) * Sc (tI trm) n ≤ 2400 * 184528125 := Int.mul_le_mul par.2 S1.2 (by omega) (by omega)
      have wj := wr j (by omega)
      have wj1 := wr (j + 1) (by omega)
      have tj := h1 j (by omega)
      have BB : 9 * (2400 * Sc (tI trm) n + 2400 * (n : Int) * Sc (tI trm) n) * ((j + 1 : Nat) : Int) ≤ 9 * (2400 * 184528125 + 2400 * 5 * 184528125) * 6 := Int.mul_le_mul (by omega) (by omega) (by omega) (by omega)
      have step : ∀ t0 : Int64, t0.toInt = pay (tI trm) (v.toInt - j) → ∃ s', f_X4_stayCost_L5_J48 (Int32.ofNat (n + 1)) v b (Int32.ofNat j) (v - Int32.ofNat j) t0 trm bo co = some (.inl s') ∧ (∃ j' : Nat, s'.2 = Int32.ofNat j' ∧ j' ≤ 5 ∧ s'.1.toInt = wsum (tI trm) (fun i => pay (tI trm) (v.toInt - i) * Sc (tI trm) n + pl (tI trm) n (v.toInt - i)) j') ∧ msr s'.2 5 < msr (Int32.ofNat j) 5 := by
        intro t0 ht0
        unfold f_X4_stayCost_L5_J48
        rw [gd_10 (on_k (by omega)).2.2 ((on_lt (k := j) (m := 10) (by omega) (by omega)).mpr (by omega)), on_sub1, gd_6 (on_k (by omega)).2.2 ((on_lt (k := n) (m := 6) (by omega) (by omega)).mpr (by omega)), n_cell (by omega) lo hi]
        simp only [bnd1, Option.bind_some]
        rw [gd_366 k2 k3, k1, (on_k (k := n) (by omega)).1, (on_k (k := j) (by omega)).1, on_inc]
        refine ⟨_, rfl, ⟨j + 1, rfl, by omega, ?_⟩, by dsimp only; rw [← on_inc]; exact msr_lt ((on_lt (k := j) (m := 5) (by omega) (by omega)).mpr (by omega))⟩
        dsimp only
        have x1 : (t0 * bo n).toInt = pay (tI trm) (v.toInt - j) * Sc (tI trm) n := by rw [i64_mul (by rw [ht0, hb]; omega) (by rw [ht0, hb]; omega), ht0, hb]
        have x2 : (t0 * bo n + co (cl n (v - Int32.ofNat j).toInt)).toInt = pay (tI trm) (v.toInt - j) * Sc (tI trm) n + pl (tI trm) n (v.toInt - j) := by
          rw [i64_add (by rw [x1, hcj]; omega) (by rw [x1, hcj]; omega), x1, hcj]
        have m3 : 0 ≤ tI trm j * (pay (tI trm) (v.toInt - j) * Sc (tI trm) n + pl (tI trm) n (v.toInt - j)) := Int.mul_nonneg tj.1 (by omega)
        have m4 : wsum (tI trm) (fun i => pay (tI trm) (v.toInt - i) * Sc (tI trm) n + pl (tI trm) n (v.toInt - i)) (j + 1) = wsum (tI trm) (fun i => pay (tI trm) (v.toInt - i) * Sc (tI trm) n + pl (tI trm) n (v.toInt - i)) j + tI trm j * (pay (tI trm) (v.toInt - j) * Sc (tI trm) n + pl (tI trm) n (v.toInt - j)) := rfl
        have tj' : (trm j).toInt64.toInt = tI trm j := i64_of
        have x3 : ((trm j).toInt64 * (t0 * bo n + co (cl n (v - Int32.ofNat j).toInt))).toInt = tI trm j * (pay (tI trm) (v.toInt - j) * Sc (tI trm) n + pl (tI trm) n (v.toInt - j)) := by
          rw [i64_mul (by rw [x2, tj']; omega) (by rw [x2, tj']; omega), x2, tj']
        rw [i64_add (by rw [x3, q3]; omega) (by rw [x3, q3]; omega), x3, q3, m4]
      have hh8 : (trm 8).toInt ≤ 60 ∧ 0 ≤ (trm 8).toInt := ⟨h8', by have : tI trm 8 = (trm 8).toInt := rfl; omega⟩
      have hh7 : (trm 7).toInt ≤ 20 ∧ 0 ≤ (trm 7).toInt := ⟨h7', h7⟩
      rw [if_neg nj]
      by_cases z : v - Int32.ofNat j ≤ 0
      · rw [if_pos z, gd_10 (by decide) (by decide)]
        refine step _ ?_
        rw [i_le, eL, show (0 : Int32).toInt = 0 from rfl] at z
        have en : (-(v - Int32.ofNat j)).toInt = -(v.toInt - j) := by
          rw [Int32.toInt_neg, eL]; exact Int.bmod_eq_of_le (by omega) (by omega)
        have m5 : 0 ≤ (trm 8).toInt * -(v.toInt - j) := Int.mul_nonneg hh8.2 (by omega)
        have m6 : (trm 8).toInt * -(v.toInt - j) ≤ 60 * 40 := Int.mul_le_mul hh8.1 (by omega) (by omega) (by omega)
        show ((trm 8 * -(v - Int32.ofNat j)).toInt64).toInt = _
        rw [i64_of, i_mul (by rw [en]; omega) (by rw [en]; omega), en]
        unfold pay
        rw [if_neg (by omega)]
        rfl
      · rw [if_neg z, gd_10 (by decide) (by decide)]
        refine step _ ?_
        rw [i_le, eL, show (0 : Int32).toInt = 0 from rfl] at z
        have m5 : 0 ≤ (trm 7).toInt * (v.toInt - j) := Int.mul_nonneg hh7.2 (by omega)
        have m6 : (trm 7).toInt * (v.toInt - j) ≤ 20 * 20 := Int.mul_le_mul hh7.1 (by omega) (by omega) (by omega)
        show ((trm 7 * (v - Int32.ofNat j)).toInt64).toInt = _
        rw [i64_of, i_mul (by rw [eL]; omega) (by rw [eL]; omega), eL]
        unfold pay
        rw [if_pos (by omega)]
        rfl) fu (0, 0) ⟨0, rfl, by omega, rfl⟩ (msr_fu (by dsimp only; decide) (by decide))
  exact ⟨r, by unfold f_X4_stayCost; rw [r1]; rfl, r2⟩
/-- the least level of [a, cap] at which nothing is ordered -/
def LW (t : Nat → Int) (n : Nat) (a z : Int) : Prop := a ≤ z ∧ z ≤ t 9 ∧ ¬ isO t n (pl t n) z ∧ ∀ x, a ≤ x → x < z → isO t n (pl t n) x
theorem LW_uniq {t : Nat → Int} {n : Nat} {a z z' : Int} (h : LW t n a z) (h' : LW t n a z') : z = z' := by
  obtain ⟨a1, a2, a3, a4⟩ := h
  obtain ⟨b1, b2, b3, b4⟩ := h'
  rcases Int.lt_trichotomy z z' with e | e | e
  · exact absurd (b4 z a1 e) a3
  · exact e
  · exact absurd (a4 z' b1 e) b3
theorem isO_cap {t : Nat → Int} {n : Nat} {f : Int → Int} {y : Int} (h : t 9 ≤ y) : ¬ isO t n f y := fun z => absurd z.1 (by omega)
/-- what a period's walk over the levels has done after k levels -/
def SV (t : Nat → Int) (n k : Nat) (co0 : Nat → Int64) (lo0 hi0 ac0 : Nat → Int32) (T : Int32) (C : Int64) (v : Int32) (lo hi : Nat → Int32) (co : Nat → Int64) (act : Nat → Int32) : Prop :=
  v.toInt = t 9 - k ∧ (k = 0 → T.toInt = t 9 ∧ C.toInt = 0) ∧ (1 ≤ k → T.toInt = tg (Gg t n (pl t n)) (t 9) (k - 1) ∧ C.toInt = Gg t n (pl t n) (tg (Gg t n (pl t n)) (t 9) (k - 1)) ∧ (hi (n + 1)).toInt = tg (Gg t n (pl t n)) (t 9) (min (k - 1) (t 9 + 20).toNat) ∧ LW t n (max (t 9 - k + 1) (-20)) (lo (n + 1)).toInt) ∧
  (∀ y, t 9 - k < y → y ≤ t 9 → (co (cl (n + 1) y)).toInt = pl t (n + 1) y ∧ (act (cl (n + 1) y)).toInt = ac t n y) ∧
  (∀ m y, m ≤ n → -40 ≤ y → y ≤ 20 → co (cl m y) = co0 (cl m y) ∧ act (cl m y) = ac0 (cl m y)) ∧
  (∀ m : Nat, m ≠ n + 1 → lo m = lo0 m ∧ hi m = hi0 m)
theorem updL_at {f : Nat → Int64} {i j : Nat} {v : Int64} : vp_updL f i v j = if j = i then v else f j := rfl
theorem sv_bnd {t : Nat → Int} (h : TT t) {n : Nat} (hn : n < 5) {y : Int} (y0 : lw (n + 1) ≤ y) (y1 : y ≤ t 9) : 0 ≤ stI t n (pl t n) y ∧ stI t n (pl t n) y ≤ 3000000000000 ∧ -200000000000 ≤ t 6 * Sc t (n + 1) * y ∧ t 6 * Sc t (n + 1) * y ≤ 200000000000 ∧ 0 ≤ t 5 * Sc t (n + 1) ∧ t 5 * Sc t (n + 1) ≤ 20000000000 ∧ 0 ≤ t 6 * Sc t (n + 1) ∧ t 6 * Sc t (n + 1) ≤ 4000000000 := by
  have S0 := Sc_le h (n := n) (by omega)
  have S1 := Sc_le h (n := n + 1) (by omega)
  have B0 : 0 ≤ 2400 * (n : Int) * Sc t n := Int.mul_nonneg (by omega) (by omega)
  have B2 : 2400 * (n : Int) * Sc t n ≤ 2400 * 4 * Sc t n := Int.mul_le_mul_of_nonneg_right (by omega) (by omega)
  obtain ⟨-, a, b⟩ := st_rng h (n := n) (by omega) B0 (pl_rng h n (by omega)) y0 y1
  have hh := h
  obtain ⟨h1, -, h5, h5', h6, h6', -, -, -, -, c0, c1⟩ := hh
  have b2 : (2400 * Sc t n + 2400 * (n : Int) * Sc t n) * sw t ≤ 12000 * Sc t (n + 1) := by
    show _ ≤ 12000 * (Sc t n * sw t)
    rw [← Int.mul_assoc]
    exact Int.mul_le_mul_of_nonneg_right (by omega) (by have := (sw_rng h).1; omega)
  have lwn : -40 ≤ lw (n + 1) := by unfold lw; omega
  have m1 : 0 ≤ t 6 * Sc t (n + 1) := Int.mul_nonneg h6 (by omega)
  have m2 : t 6 * Sc t (n + 1) ≤ 20 * 184528125 := Int.mul_le_mul h6' S1.2 (by omega) (by omega)
  have m3 : 0 ≤ t 5 * Sc t (n + 1) := Int.mul_nonneg h5 (by omega)
  have m4 : t 5 * Sc t (n + 1) ≤ 99 * 184528125 := Int.mul_le_mul h5' S1.2 (by omega) (by omega)
  have m5 : t 6 * Sc t (n + 1) * y ≤ (20 * 184528125) * 40 := by
    by_cases z : 0 ≤ y
    · exact Int.mul_le_mul m2 (by omega) z (by omega)
    · have : t 6 * Sc t (n + 1) * y ≤ t 6 * Sc t (n + 1) * 0 := Int.mul_le_mul_of_nonneg_left (by omega) m1
      omega
  have m6 : t 6 * Sc t (n + 1) * (-y) ≤ (20 * 184528125) * 40 := by
    by_cases z : 0 ≤ -y
    · exact Int.mul_le_mul m2 (by omega) z (by omega)
    · have : t 6 * Sc t (n + 1) * (-y) ≤ t 6 * Sc t (n + 1) * 0 := Int.mul_le_mul_of_nonneg_left (by omega) m1
      omega
  rw [Int.mul_neg] at m6
  refine ⟨a, by omega, by omega, by omega, m3, by omega, m1, by omega⟩
/-- the end of a level's turn -/
theorem sv_203 {t : Nat → Int} (hT : TT t) {n k : Nat} (hn : n < 5) {co0 : Nat → Int64} {lo0 hi0 ac0 : Nat → Int32} {n3 n5 C' : Int64} {n2 T' v t0 : Int32} {trm lo hi : Nat → Int32} {bo co : Nat → Int64} {act : Nat → Int32}
    (e1 : v.toInt = t 9 - k) (lk : lw (n + 1) ≤ v.toInt) (hT' : T'.toInt = tg (Gg t n (pl t n)) (t 9) k) (hC' : C'.toInt = Gg t n (pl t n) (tg (Gg t n (pl t n)) (t 9) k)) (ht0 : t0 = 0 ↔ ¬ isO t n (pl t n) v.toInt)
    (hl : 1 ≤ k → (hi (n + 1)).toInt = tg (Gg t n (pl t n)) (t 9) (min (k - 1) (t 9 + 20).toNat) ∧ LW t n (max (t 9 - k + 1) (-20)) (lo (n + 1)).toInt)
    (hc : ∀ y, t 9 - (k + 1 : Nat) < y → y ≤ t 9 → (co (cl (n + 1) y)).toInt = pl t (n + 1) y ∧ (act (cl (n + 1) y)).toInt = ac t n y)
    (ho : ∀ m y, m ≤ n → -40 ≤ y → y ≤ 20 → co (cl m y) = co0 (cl m y) ∧ act (cl m y) = ac0 (cl m y)) (hm : ∀ m : Nat, m ≠ n + 1 → lo m = lo0 m ∧ hi m = hi0 m) :
    ∃ s', f_X4_solvePeriod_L62_J203 (Int32.ofNat (n + 1)) n2 n3 n5 T' C' v t0 trm lo hi bo co act = some (.inl s') ∧ SV t n (k + 1) co0 lo0 hi0 ac0 s'.1 s'.2.1 s'.2.2.1 s'.2.2.2.1 s'.2.2.2.2.1 s'.2.2.2.2.2.1 s'.2.2.2.2.2.2 ∧ s'.2.2.1.toInt = v.toInt - 1 := by
  have c01 : 0 ≤ t 9 ∧ t 9 ≤ 20 := by obtain ⟨-, -, -, -, -, -, -, -, -, -, c0, c1⟩ := hT; exact ⟨c0, c1⟩
  have lwn : -40 ≤ lw (n + 1) := by unfold lw; omega
  have ev : (v + (-1)).toInt = v.toInt - 1 := by
    rw [i_add (by show _ ≤ _ + (-1 : Int); omega) (by show _ + (-1 : Int) ≤ _; omega)]; show _ + (-1 : Int) = _; omega
  have gi : 0 ≤ Int32.ofNat (n + 1) ∧ Int32.ofNat (n + 1) < 6 := ⟨(on_k (by omega)).2.2, (on_lt (k := n + 1) (m := 6) (by omega) (by omega)).mpr (by omega)⟩
  have en : (Int32.ofNat (n + 1)).toNatClampNeg = n + 1 := (on_k (by omega)).1
  unfold f_X4_solvePeriod_L62_J203 f_X4_solvePeriod_L62_J239 f_X4_solvePeriod_L62_J240
  by_cases z : v < -20
  · rw [if_pos z]
    rw [i_lt, show (-20 : Int32).toInt = -20 from rfl] at z
    obtain ⟨h1, h2⟩ := hl (by omega)
    refine ⟨_, rfl, ⟨by dsimp only; rw [ev]; omega, fun y => absurd y (by omega), fun _ => ⟨hT', hC', ?_, ?_⟩, hc, ho, hm⟩, ev⟩ <;> dsimp only
    · rw [h1, show min (k - 1) (t 9 + 20).toNat = min (k + 1 - 1) (t 9 + 20).toNat by omega]
    · have q1 : max (t 9 - ((k + 1 : Nat) : Int) + 1) (-20) = -20 := by omega
      have q2 : max (t 9 - (k : Int) + 1) (-20) = -20 := by omega
      rw [q1, ← q2]; exact h2
  · rw [if_neg z, gd_6 gi.1 gi.2]
    rw [i_lt, show (-20 : Int32).toInt = -20 from rfl] at z
    have hmin : min (k + 1 - 1) (t 9 + 20).toNat = k := by omega
    have q1 : max (t 9 - ((k + 1 : Nat) : Int) + 1) (-20) = v.toInt := by omega
    by_cases z0 : t0 = 0
    · rw [if_pos z0, gd_6 gi.1 gi.2, en]
      have no := ht0.mp z0
      refine ⟨_, rfl, ⟨by dsimp only; rw [ev]; omega, fun y => absurd y (by omega), fun _ => ⟨hT', hC', ?_, ?_⟩, hc, ho, fun m hm' => ?_⟩, ev⟩ <;> dsimp only
      · rw [upd_eq, hmin, hT']
      · rw [upd_eq, q1]
        exact ⟨Int.le_refl _, by omega, no, fun x x0 x1 => absurd x1 (by omega)⟩
      · rw [upd_of hm', upd_of hm']; exact hm m hm'
    · rw [if_neg z0, gd_6 gi.1 gi.2, gd_6 gi.1 gi.2, en]
      have yo : isO t n (pl t n) v.toInt := by
        by_cases w : isO t n (pl t n) v.toInt
        · exact w
        · exact absurd (ht0.mpr w) z0
      have k1 : 1 ≤ k := by
        have := yo.1
        omega
      obtain ⟨h1, l1, l2, l3, l4⟩ := hl k1
      have q2 : max (t 9 - (k : Int) + 1) (-20) = v.toInt + 1 := by omega
      rw [q2] at l1 l4
      refine ⟨_, rfl, ⟨by dsimp only; rw [ev]; omega, fun y => absurd y (by omega), fun _ => ⟨hT', hC', ?_, ?_⟩, hc, ho, fun m hm' => ?_⟩, ev⟩ <;> dsimp only
      · rw [upd_eq, hmin, hT']
      · rw [upd_eq, q1]
        refine ⟨by omega, l2, l3, fun x x0 x1 => ?_⟩
        by_cases e : x = v.toInt
        · rw [e]; exact yo
        · exact l4 x (by omega) x1
      · rw [upd_of hm', upd_of hm']; exact hm m hm'
/-- a level's turn -/
theorem pv_step {trm : Nat → Int32} {n k : Nat} {co0 : Nat → Int64} {lo0 hi0 ac0 : Nat → Int32} {n3 n5 C : Int64} {n2 T v : Int32} {lo hi : Nat → Int32} {bo co : Nat → Int64} {act : Nat → Int32} (hT : TT (tI trm)) (hn : n < 5)
    (hb : (bo n).toInt = Sc (tI trm) n) (h3 : n3.toInt = tI trm 6 * Sc (tI trm) (n + 1)) (h5 : n5.toInt = tI trm 5 * Sc (tI trm) (n + 1)) (h2 : n2.toInt = lw (n + 1))
    (hc0 : ∀ y, lw n ≤ y → y ≤ tI trm 9 → (co0 (cl n y)).toInt = pl (tI trm) n y) (hS : SV (tI trm) n k co0 lo0 hi0 ac0 T C v lo hi co act) (hv : lw (n + 1) ≤ v.toInt) :
    ∃ s', f_X4_solvePeriod_L62 (Int32.ofNat (n + 1)) n2 n3 n5 trm bo T C v lo hi co act = some (.inl s') ∧ SV (tI trm) n (k + 1) co0 lo0 hi0 ac0 s'.1 s'.2.1 s'.2.2.1 s'.2.2.2.1 s'.2.2.2.2.1 s'.2.2.2.2.2.1 s'.2.2.2.2.2.2 ∧ s'.2.2.1.toInt = v.toInt - 1 := by
  obtain ⟨e1, ek0, ek1, hc, ho, hm⟩ := hS
  have c01 : 0 ≤ tI trm 9 ∧ tI trm 9 ≤ 20 := by obtain ⟨-, -, -, -, -, -, -, -, -, -, c0, c1⟩ := hT; exact ⟨c0, c1⟩
  have lwn : lw (n + 1) = lw n + 4 := by unfold lw; omega
  have lw0 : -40 ≤ lw n := by unfold lw; omega
  have v1 : v.toInt ≤ tI trm 9 := by omega
  obtain ⟨r, r1, r2⟩ := n_stay (co := co) hT hn hb (fun y y0 y1 => by rw [(ho n y (Nat.le_refl _) (by omega) (by omega)).1]; exact hc0 y y0 y1) hv v1
  obtain ⟨b1, b2, b3, b4, b5, b6, b7, b8⟩ := sv_bnd hT hn hv v1
  have hcell := n_cell (n := n + 1) (v := v) (by omega) (by omega) (by omega)
  obtain ⟨cl1, cl2, cl3, cl4⟩ := cl_rng (n := n + 1) (y := v.toInt) (by omega) (by omega) (by omega)
  have hvl : v.toInt64.toInt = v.toInt := i64_of
  have m1 : (n3 * v.toInt64).toInt = tI trm 6 * Sc (tI trm) (n + 1) * v.toInt := by rw [i64_mul (by rw [h3, hvl]; omega) (by rw [h3, hvl]; omega), h3, hvl]
  have m2 : (r + n3 * v.toInt64).toInt = Gg (tI trm) n (pl (tI trm) n) v.toInt := by rw [i64_add (by rw [m1, r2]; omega) (by rw [m1, r2]; omega), m1, r2]; rfl
  have g9 : trm (9 : Int32).toNatClampNeg = trm 9 := rfl
  have n2v : ¬ v < n2 := by rw [i_lt, h2]; omega
  have cap9 : (trm 9).toInt = tI trm 9 := rfl
  -- the flag, and what an order costs
  have hG : 1 ≤ k → -4000000000000 ≤ Gg (tI trm) n (pl (tI trm) n) (tg (Gg (tI trm) n (pl (tI trm) n)) (tI trm 9) (k - 1)) ∧ Gg (tI trm) n (pl (tI trm) n) (tg (Gg (tI trm) n (pl (tI trm) n)) (tI trm 9) (k - 1)) ≤ 4000000000000 := fun k1 => by
    obtain ⟨z1, z2, -⟩ := tg_LA (G := Gg (tI trm) n (pl (tI trm) n)) (cap := tI trm 9) (k - 1)
    obtain ⟨x1, x2, x3, x4, -⟩ := sv_bnd hT hn (y := tg (Gg (tI trm) n (pl (tI trm) n)) (tI trm 9) (k - 1)) (by omega) z2
    show _ ≤ stI _ _ _ _ + _ * _ * _ ∧ stI _ _ _ _ + _ * _ * _ ≤ _
    exact ⟨by omega, by omega⟩
  have hord : 1 ≤ k → ((n5 + C) - n3 * v.toInt64).toInt = orI (tI trm) n (pl (tI trm) n) v.toInt := fun k1 => by
    obtain ⟨w1, w2, -⟩ := ek1 k1
    obtain ⟨x1, x2⟩ := hG k1
    have a1 : (n5 + C).toInt = tI trm 5 * Sc (tI trm) (n + 1) + Gg (tI trm) n (pl (tI trm) n) (tg (Gg (tI trm) n (pl (tI trm) n)) (tI trm 9) (k - 1)) := by
      rw [i64_add (by rw [h5, w2]; omega) (by rw [h5, w2]; omega), h5, w2]
    rw [i64_sub (by rw [a1, m1]; omega) (by rw [a1, m1]; omega), a1, m1]
    unfold orI
    rw [show (tI trm 9 - v.toInt - 1).toNat = k - 1 by omega]
  -- the rest of the turn
  have turn : ∀ t0 : Int32, (t0 = 0 ↔ ¬ isO (tI trm) n (pl (tI trm) n) v.toInt) → ∃ s', f_X4_solvePeriod_L62_J115 (Int32.ofNat (n + 1)) n2 n3 n5 T C v r ((n5 + C) - n3 * v.toInt64) t0 trm lo hi bo co act = some (.inl s') ∧ SV (tI trm) n (k + 1) co0 lo0 hi0 ac0 s'.1 s'.2.1 s'.2.2.1 s'.2.2.2.1 s'.2.2.2.2.1 s'.2.2.2.2.2.1 s'.2.2.2.2.2.2 ∧ s'.2.2.1.toInt = v.toInt - 1 := by
    intro t0 ht0
    -- what is written
    have wr : ∀ (X : Int64) (A : Int32), X.toInt = pl (tI trm) (n + 1) v.toInt → A.toInt = ac (tI trm) n v.toInt → ∃ s', f_X4_solvePeriod_L62_J162 (Int32.ofNat (n + 1)) n2 n3 n5 T C v r t0 (Int32.ofNat (cl (n + 1) v.toInt)) A trm lo hi bo (vp_updL co (Int32.ofNat (cl (n + 1) v.toInt)).toNatClampNeg X) act = some (.inl s') ∧ SV (tI trm) n (k + 1) co0 lo0 hi0 ac0 s'.1 s'.2.1 s'.2.2.1 s'.2.2.2.1 s'.2.2.2.2.1 s'.2.2.2.2.2.1 s'.2.2.2.2.2.2 ∧ s'.2.2.1.toInt = v.toInt - 1 := by
      intro X A hX hA
      have hc' : ∀ y, tI trm 9 - (k + 1 : Nat) < y → y ≤ tI trm 9 → (vp_updL co (cl (n + 1) v.toInt) X (cl (n + 1) y)).toInt = pl (tI trm) (n + 1) y ∧ (upd act (cl (n + 1) v.toInt) A (cl (n + 1) y)).toInt = ac (tI trm) n y := fun y y0 y1 => by
        by_cases e : y = v.toInt
        · rw [e, updL_at, if_pos rfl, upd_eq]; exact ⟨hX, hA⟩
        · have ne : cl (n + 1) y ≠ cl (n + 1) v.toInt := cl_ne (by omega) (by omega) (by omega) (by omega) (fun z => e z.2)
          rw [updL_at, if_neg ne, upd_of ne]
          exact hc y (by omega) y1
      have ho' : ∀ m y, m ≤ n → -40 ≤ y → y ≤ 20 → vp_updL co (cl (n + 1) v.toInt) X (cl m y) = co0 (cl m y) ∧ upd act (cl (n + 1) v.toInt) A (cl m y) = ac0 (cl m y) := fun m y m0 y0 y1 => by
        have ne : cl m y ≠ cl (n + 1) v.toInt := cl_ne y0 y1 (by omega) (by omega) (fun z => absurd z.1 (by omega))
        rw [updL_at, if_neg ne, upd_of ne]
        exact ho m y m0 y0 y1
      have hl : 1 ≤ k → (hi (n + 1)).toInt = tg (Gg (tI trm) n (pl (tI trm) n)) (tI trm 9) (min (k - 1) (tI trm 9 + 20).toNat) ∧ LW (tI trm) n (max (tI trm 9 - k + 1) (-20)) (lo (n + 1)).toInt := fun k1 => (ek1 k1).2.2
      unfold f_X4_solvePeriod_L62_J162 f_X4_solvePeriod_L62_J189
      rw [gd_366 cl2 cl3, gd_10 (by decide) (by decide), g9, cl1]
      by_cases hk : k = 0
      · have ev : v = trm 9 := by rw [i_eq, e1, hk, cap9]; omega
        rw [if_pos ev]
        have t0' : tg (Gg (tI trm) n (pl (tI trm) n)) (tI trm 9) k = v.toInt := by rw [hk]; show tI trm 9 = _; rw [ev]; rfl
        exact sv_203 hT hn e1 hv t0'.symm (by rw [m2, t0']) ht0 hl hc' ho' hm
      · have ev : ¬ v = trm 9 := fun z => by rw [i_eq, cap9] at z; omega
        rw [if_neg ev]
        obtain ⟨k', rfl⟩ : ∃ k', k = k' + 1 := ⟨k - 1, by omega⟩
        obtain ⟨w1, w2, -⟩ := ek1 (by omega)
        rw [show k' + 1 - 1 = k' by omega] at w1 w2
        have t0' : tg (Gg (tI trm) n (pl (tI trm) n)) (tI trm 9) (k' + 1) = if Gg (tI trm) n (pl (tI trm) n) v.toInt ≤ Gg (tI trm) n (pl (tI trm) n) (tg (Gg (tI trm) n (pl (tI trm) n)) (tI trm 9) k') then v.toInt else tg (Gg (tI trm) n (pl (tI trm) n)) (tI trm 9) k' := by
          rw [e1]; rfl
        by_cases hl2 : 0 < lg_cmp (r + n3 * v.toInt64) C
        · rw [if_pos hl2]
          rw [lg_lt.1, m2, w2] at hl2
          rw [if_neg (by omega)] at t0'
          exact sv_203 hT hn e1 hv (by rw [t0']; exact w1) (by rw [t0']; exact w2) ht0 hl hc' ho' hm
        · rw [if_neg hl2]
          rw [lg_lt.1, m2, w2] at hl2
          rw [if_pos (by omega)] at t0'
          exact sv_203 hT hn e1 hv t0'.symm (by rw [m2, t0']) ht0 hl hc' ho' hm
    unfold f_X4_solvePeriod_L62_J115 f_X4_solvePeriod_L62_J139
    rw [hcell]
    simp only [bnd1, Option.bind_some]
    rw [gd_366 cl2 cl3, gd_366 cl2 cl3]
    by_cases z : t0 = 0
    · have no := ht0.mp z
      rw [if_pos z, if_pos z]
      refine wr r v ?_ ?_
      · rw [r2]; unfold pl; rw [if_neg no]
      · unfold ac; rw [if_neg no]
    · have yo : isO (tI trm) n (pl (tI trm) n) v.toInt := by
        by_cases w : isO (tI trm) n (pl (tI trm) n) v.toInt
        · exact w
        · exact absurd (ht0.mpr w) z
      have k1 : 1 ≤ k := by have := yo.1; omega
      rw [if_neg z, if_neg z]
      refine wr _ T ?_ ?_
      · rw [hord k1]
        show _ = (if isO (tI trm) n (pl (tI trm) n) v.toInt then _ else _)
        rw [if_pos yo]
      · unfold ac
        rw [if_pos yo, (ek1 k1).1, show (tI trm 9 - v.toInt - 1).toNat = k - 1 by omega]
  unfold f_X4_solvePeriod_L62 f_X4_solvePeriod_L62_J114
  rw [if_neg n2v, r1]
  simp only [bnd1, Option.bind_some]
  rw [gd_10 (by decide) (by decide), g9]
  by_cases hk : k = 0
  · have z : trm 9 ≤ v := by rw [i_le, cap9]; omega
    rw [if_pos z]
    exact turn 0 ⟨fun _ => isO_cap (by omega), fun _ => rfl⟩
  · have z : ¬ trm 9 ≤ v := by rw [i_le, cap9]; omega
    rw [if_neg z]
    by_cases c : 0 ≤ lg_cmp ((n5 + C) - n3 * v.toInt64) r
    · rw [if_pos c]
      rw [lg_lt.2.1, hord (by omega), r2] at c
      exact turn 0 ⟨fun _ y => absurd y.2 (by omega), fun _ => rfl⟩
    · rw [if_neg c]
      rw [lg_lt.2.1, hord (by omega), r2] at c
      exact turn 1 ⟨fun y => absurd y (by decide), fun y => absurd (⟨by omega, by omega⟩ : isO (tI trm) n (pl (tI trm) n) v.toInt) y⟩
/-- a period's table -/
def PT (t : Nat → Int) (n : Nat) (lo hi : Nat → Int32) (co : Nat → Int64) (act : Nat → Int32) : Prop :=
  (∀ y, lw (n + 1) ≤ y → y ≤ t 9 → (co (cl (n + 1) y)).toInt = pl t (n + 1) y ∧ (act (cl (n + 1) y)).toInt = ac t n y) ∧ LW t n (-20) (lo (n + 1)).toInt ∧ (hi (n + 1)).toInt = tg (Gg t n (pl t n)) (t 9) (t 9 + 20).toNat
theorem pv_n2 : ∀ n : Nat, n < 5 → ((-20 : Int32) - 4 * (5 - Int32.ofNat (n + 1))).toInt = lw (n + 1) := by decide
theorem pv_run {trm lo hi act : Nat → Int32} {bo co : Nat → Int64} {n : Nat} {n2 : Int32} {n3 n5 : Int64} (hT : TT (tI trm)) (hn : n < 5) (hb : (bo n).toInt = Sc (tI trm) n) (h3 : n3.toInt = tI trm 6 * Sc (tI trm) (n + 1)) (h5 : n5.toInt = tI trm 5 * Sc (tI trm) (n + 1)) (h2 : n2.toInt = lw (n + 1)) (hc0 : ∀ y, lw n ≤ y → y ≤ tI trm 9 → (co (cl n y)).toInt = pl (tI trm) n y) :
    ∃ e, loop (fun z : Int32 × Int64 × Int32 × (Nat → Int32) × (Nat → Int32) × (Nat → Int64) × (Nat → Int32) => f_X4_solvePeriod_L62 (Int32.ofNat (n + 1)) n2 n3 n5 trm bo z.1 z.2.1 z.2.2.1 z.2.2.2.1 z.2.2.2.2.1 z.2.2.2.2.2.1 z.2.2.2.2.2.2) fu (trm 9, 0, trm 9, lo, hi, co, act) = some e ∧ PT (tI trm) n e.1 e.2.1 e.2.2.1 e.2.2.2 ∧ (∀ m y, m ≤ n → -40 ≤ y → y ≤ 20 → e.2.2.1 (cl m y) = co (cl m y) ∧ e.2.2.2 (cl m y) = act (cl m y)) ∧ ∀ m : Nat, m ≠ n + 1 → e.1 m = lo m ∧ e.2.1 m = hi m := by
  have c01 : 0 ≤ tI trm 9 ∧ tI trm 9 ≤ 20 := by obtain ⟨-, -, -, -, -, -, -, -, -, -, c0, c1⟩ := hT; exact ⟨c0, c1⟩
  have lwn : lw (n + 1) ≤ -20 := by unfold lw; omega
  have lw0 : -40 ≤ lw (n + 1) := by unfold lw; omega
  have e9 : (trm 9).toInt = tI trm 9 := rfl
  refine lp_one (f := fun z : Int32 × Int64 × Int32 × (Nat → Int32) × (Nat → Int32) × (Nat → Int64) × (Nat → Int32) => f_X4_solvePeriod_L62 (Int32.ofNat (n + 1)) n2 n3 n5 trm bo z.1 z.2.1 z.2.2.1 z.2.2.2.1 z.2.2.2.2.1 z.2.2.2.2.2.1 z.2.2.2.2.2.2)
    (fun z => ∃ k, SV (tI trm) n k co lo hi act z.1 z.2.1 z.2.2.1 z.2.2.2.1 z.2.2.2.2.1 z.2.2.2.2.2.1 z.2.2.2.2.2.2 ∧ lw (n + 1) - 1 ≤ z.2.2.1.toInt) _ (fun z => (z.2.2.1.toInt + 100).toNat) ?_ fu _ ⟨0, ⟨?_, fun _ => ⟨rfl, rfl⟩, fun z => absurd z (by omega), fun y y0 y1 => absurd y1 (by omega), fun _ _ _ _ _ => ⟨rfl, rfl⟩, fun _ _ => ⟨rfl, rfl⟩⟩, ?_⟩ ?_
  · rintro ⟨T, C, v, lo2, hi2, co2, act2⟩ ⟨k, hS, hl⟩
    dsimp only at hS hl ⊢
    by_cases hv : lw (n + 1) ≤ v.toInt
    · obtain ⟨s', s1, s2, s3⟩ := pv_step hT hn hb h3 h5 h2 hc0 hS hv
      refine Or.inl ⟨s', s1, ⟨k + 1, s2, ?_⟩, ?_⟩ <;> rw [s3]
      · omega
      · omega
    · right
      have hv2 : v < n2 := by rw [i_lt, h2]; omega
      obtain ⟨a1, a2, a3, a4, a5, a6⟩ := hS
      obtain ⟨b1, b2, b3, b4⟩ := a3 (by omega)
      refine ⟨(lo2, hi2, co2, act2), by unfold f_X4_solvePeriod_L62; rw [if_pos hv2], ⟨fun y y0 y1 => a4 y (by omega) y1, ?_, ?_⟩, a5, a6⟩
      · dsimp only
        rw [show max (tI trm 9 - (k : Int) + 1) (-20) = -20 by omega] at b4; exact b4
      · dsimp only
        rw [b3, show min (k - 1) (tI trm 9 + 20).toNat = (tI trm 9 + 20).toNat by omega]
  · dsimp only; rw [e9]; omega
  · dsimp only; rw [e9]; omega
  · dsimp only; rw [e9]; unfold fu; omega
theorem pv_period {trm lo hi act : Nat → Int32} {bo co : Nat → Int64} {n : Nat} (hT : TT (tI trm)) (hn : n < 5) (hb : (bo n).toInt = Sc (tI trm) n) (hb1 : (bo (n + 1)).toInt = Sc (tI trm) (n + 1)) (hc0 : ∀ y, lw n ≤ y → y ≤ tI trm 9 → (co (cl n y)).toInt = pl (tI trm) n y) :
    ∃ lo' hi' co' act', f_X4_solvePeriod (Int32.ofNat (n + 1)) trm lo hi bo co act = some (lo', hi', co', act') ∧ PT (tI trm) n lo' hi' co' act' ∧ (∀ m y, m ≤ n → -40 ≤ y → y ≤ 20 → co' (cl m y) = co (cl m y) ∧ act' (cl m y) = act (cl m y)) ∧ ∀ m : Nat, m ≠ n + 1 → lo' m = lo m ∧ hi' m = hi m := by
  have hh := hT
  obtain ⟨h1, -, h5, h5', h6, h6', -, -, -, -, c0, c1⟩ := hh
  have S1 := Sc_le hT (n := n + 1) (by omega)
  have gi : 0 ≤ Int32.ofNat (n + 1) ∧ Int32.ofNat (n + 1) < 6 := ⟨(on_k (by omega)).2.2, (on_lt (k := n + 1) (m := 6) (by omega) (by omega)).mpr (by omega)⟩
  have en : (Int32.ofNat (n + 1)).toNatClampNeg = n + 1 := (on_k (by omega)).1
  have t6 : ((trm 6).toInt64).toInt = tI trm 6 := i64_of
  have t5 : ((trm 5).toInt64).toInt = tI trm 5 := i64_of
  have m1 : 0 ≤ tI trm 6 * Sc (tI trm) (n + 1) := Int.mul_nonneg h6 (by omega)
  have m2 : tI trm 6 * Sc (tI trm) (n + 1) ≤ 20 * 184528125 := Int.mul_le_mul h6' S1.2 (by omega) (by omega)
  have m3 : 0 ≤ tI trm 5 * Sc (tI trm) (n + 1) := Int.mul_nonneg h5 (by omega)
  have m4 : tI trm 5 * Sc (tI trm) (n + 1) ≤ 99 * 184528125 := Int.mul_le_mul h5' S1.2 (by omega) (by omega)
  have h3 : ((trm 6).toInt64 * bo (n + 1)).toInt = tI trm 6 * Sc (tI trm) (n + 1) := by rw [i64_mul (by rw [t6, hb1]; omega) (by rw [t6, hb1]; omega), t6, hb1]
  have h5 : ((trm 5).toInt64 * bo (n + 1)).toInt = tI trm 5 * Sc (tI trm) (n + 1) := by rw [i64_mul (by rw [t5, hb1]; omega) (by rw [t5, hb1]; omega), t5, hb1]
  have h2 := pv_n2 n hn
  obtain ⟨⟨lo', hi', co', act'⟩, e1, e2⟩ := pv_run (lo := lo) (hi := hi) (act := act) hT hn hb h3 h5 h2 hc0
  refine ⟨lo', hi', co', act', ?_, e2⟩
  unfold f_X4_solvePeriod
  rw [gd_10 (by decide) (by decide), gd_6 gi.1 gi.2, gd_10 (by decide) (by decide), gd_6 gi.1 gi.2, gd_10 (by decide) (by decide), gd_10 (by decide) (by decide), en]
  have k9 : trm (9 : Int32).toNatClampNeg = trm 9 := rfl
  have k6 : trm (6 : Int32).toNatClampNeg = trm 6 := rfl
  have k5 : trm (5 : Int32).toNatClampNeg = trm 5 := rfl
  rw [k9, k6, k5, e1]
  simp only [bnd4, Option.bind_some]
/-- all periods' tables -/
def SOL (trm lo hi : Nat → Int32) (bo co : Nat → Int64) (act : Nat → Int32) : Prop := (∀ m : Nat, m ≤ 5 → (bo m).toInt = Sc (tI trm) m) ∧ ∀ m : Nat, m < 5 → PT (tI trm) m lo hi co act
/-- the plan as it is kept: at first all weights are 0 -/
def PL (pt lo hi : Nat → Int32) (bo co : Nat → Int64) (act : Nat → Int32) : Prop := (∀ y, -40 ≤ y → y ≤ 20 → (co (cl 0 y)).toInt = 0) ∧ ((∀ i : Nat, i < 5 → pt i = 0) ∨ SOL pt lo hi bo co act)
theorem n_take {pt trm : Nat → Int32} : ∃ r o, f_X4_takeTerms pt trm = some (r, o) ∧ (∀ i : Nat, i < 10 → o i = trm i) ∧ (r = 0 → o = pt) := by
  obtain ⟨e, e1, e2, e3, e4⟩ := lp_one (f := fun z : Int32 × Int32 × (Nat → Int32) => f_X4_takeTerms_L4 trm z.1 z.2.1 z.2.2)
    (fun z => ∃ j : Nat, z.2.1 = Int32.ofNat j ∧ j ≤ 10 ∧ (z.1 = 0 ∨ z.1 = 1) ∧ (∀ i, i < j → z.2.2 i = trm i) ∧ (∀ i, j ≤ i → z.2.2 i = pt i) ∧ (z.1 = 0 → z.2.2 = pt)) (fun e => (e.1 = 0 ∨ e.1 = 1) ∧ (∀ i : Nat, i < 10 → e.2 i = trm i) ∧ (e.1 = 0 → e.2 = pt)) (fun z => msr z.2.1 10) (by
    rintro ⟨b, k, f⟩ ⟨j, q1, q2, q3, q4, q5, q6⟩
    dsimp only at q1 q2 q3 q4 q5 q6 ⊢
    subst q1
    unfold f_X4_takeTerms_L4
    by_cases hj : 10 ≤ j
    · right
      rw [if_pos (show (10 : Int32) ≤ Int32.ofNat j from (on_le (k := 10) (m := j) (by omega) (by omega)).mpr hj)]
      have : j = 10 := by omega
      subst this
      exact ⟨_, rfl, q3, q4, q6⟩
    · left
      have nj : ¬ (10 : Int32) ≤ Int32.ofNat j := fun z => hj ((on_le (k := 10) (m := j) (by omega) (by omega)).mp z)
      have g1 : 0 ≤ Int32.ofNat j := (on_k (by omega)).2.2
      have g2 : Int32.ofNat j < 10 := (on_lt (k := j) (m := 10) (by omega) (by omega)).mpr (by omega)
      have ej := (on_k (k := j) (by omega)).1
      have key : ∀ r : Int32, (r = 0 ∨ r = 1) → (r = 0 → b = 0 ∧ f j = trm j) → ∃ s', f_X4_takeTerms_L4_J40 (Int32.ofNat j) r f trm = some (.inl s') ∧ (∃ j' : Nat, s'.2.1 = Int32.ofNat j' ∧ j' ≤ 10 ∧ (s'.1 = 0 ∨ s'.1 = 1) ∧ (∀ i, i < j' → s'.2.2 i = trm i) ∧ (∀ i, j' ≤ i → s'.2.2 i = pt i) ∧ (s'.1 = 0 → s'.2.2 = pt)) ∧ msr s'.2.1 10 < msr (Int32.ofNat j) 10 := by
        intro r hr hr0
        unfold f_X4_takeTerms_L4_J40
        rw [gd_10 g1 g2, gd_10 g1 g2, ej, on_inc]
        refine ⟨_, rfl, ⟨j + 1, rfl, by omega, hr, fun i hi => ?_, fun i hi => ?_, fun z => ?_⟩, by dsimp only; rw [← on_inc]; exact msr_lt g2⟩ <;> dsimp only
        · by_cases e : i = j
          · rw [e, upd_eq]
          · rw [upd_of e]; exact q4 i (by omega)
        · rw [upd_of (by omega)]; exact q5 i (by omega)
        · obtain ⟨z1, z2⟩ := hr0 z
          funext i
          by_cases e : i = j
          · rw [e, upd_eq, ← z2, q6 z1]
          · rw [upd_of e, q6 z1]
      rw [if_neg nj, if_neg nj]
      by_cases hb : b = 0
      · rw [if_pos hb, gd_10 g1 g2, gd_10 g1 g2, ej]
        by_cases c : f j = trm j
        · rw [if_pos c]
          exact key 0 (Or.inl rfl) (fun _ => ⟨hb, c⟩)
        · rw [if_neg c]
          exact key 1 (Or.inr rfl) (fun z => absurd z (by decide))
      · rw [if_neg hb]
        exact key 1 (Or.inr rfl) (fun z => absurd z (by decide))) fu (0, 0, pt) ⟨0, rfl, by omega, Or.inl rfl, fun i hi => absurd hi (by omega), fun _ _ => rfl, fun _ => rfl⟩ (msr_fu (by dsimp only; decide) (by decide))
  obtain ⟨r, o⟩ := e
  refine ⟨r, o, ?_, e3, e4⟩
  unfold f_X4_takeTerms
  rw [e1]
  dsimp only at e2
  rcases e2 with rfl | rfl <;> rfl
theorem TT_same {t t' : Nat → Int} (h : TT t) (e : ∀ i, i < 10 → t' i = t i) : TT t' := by
  unfold TT at *
  rw [e 0 (by omega), e 1 (by omega), e 2 (by omega), e 3 (by omega), e 4 (by omega), e 5 (by omega), e 6 (by omega), e 7 (by omega), e 8 (by omega), e 9 (by omega)]
  exact ⟨fun i hi => by rw [e i (by omega)]; exact h.1 i hi, h.2⟩
/-- the weights' sum -/
theorem pv_sum {trm : Nat → Int32} (hT : TT (tI trm)) (lo hi : Nat → Int32) (bo co : Nat → Int64) (act cp1 : Nat → Int32) : ∃ m, loop (fun z : Int32 × Int32 => f_X4_solve_L13 trm lo hi bo co act cp1 z.1 z.2) fu (0, 0) = some m ∧ m.toInt = sw (tI trm) := by
  obtain ⟨h1, -⟩ := hT
  obtain ⟨m, e1, e2⟩ := lp_one (f := fun z : Int32 × Int32 => f_X4_solve_L13 trm lo hi bo co act cp1 z.1 z.2)
    (fun z => ∃ j : Nat, z.2 = Int32.ofNat j ∧ j ≤ 5 ∧ z.1.toInt = wsum (fun i => (trm i).toInt) (fun _ => 1) j ∧ 0 ≤ z.1.toInt ∧ z.1.toInt ≤ 9 * j) (fun m => m.toInt = wsum (fun i => (trm i).toInt) (fun _ => 1) 5) (fun z => msr z.2 5) (by
    rintro ⟨b, k⟩ ⟨j, q1, q2, q3, q4, q5⟩
    dsimp only at q1 q2 q3 q4 q5 ⊢
    subst q1
    unfold f_X4_solve_L13
    by_cases hj : 5 ≤ j
    · right
      rw [if_pos (show (5 : Int32) ≤ Int32.ofNat j from (on_le (k := 5) (m := j) (by omega) (by omega)).mpr hj)]
      have : j = 5 := by omega
      subst this
      exact ⟨_, rfl, q3⟩
    · left
      have nj : ¬ (5 : Int32) ≤ Int32.ofNat j := fun z => hj ((on_le (k := 5) (m := j) (by omega) (by omega)).mp z)
      have tj : 0 ≤ (trm j).toInt ∧ (trm j).toInt ≤ 9 := h1 j (by omega)
      have s : (b + trm j).toInt = b.toInt + (trm j).toInt := i_add (by omega) (by omega)
      rw [if_neg nj, gd_10 (on_k (by omega)).2.2 ((on_lt (k := j) (m := 10) (by omega) (by omega)).mpr (by omega)), (on_k (k := j) (by omega)).1, on_inc]
      refine ⟨_, rfl, ⟨j + 1, rfl, by omega, ?_, ?_, ?_⟩, by dsimp only; rw [← on_inc]; exact msr_lt ((on_lt (k := j) (m := 5) (by omega) (by omega)).mpr (by omega))⟩ <;> dsimp only
      · rw [s, q3]; show _ = wsum _ _ j + (trm j).toInt * 1; omega
      · omega
      · omega) fu (0, 0) ⟨0, rfl, by omega, rfl, by decide, by decide⟩ (msr_fu (by dsimp only; decide) (by decide))
  refine ⟨m, e1, ?_⟩
  rw [e2]
  simp only [wsum, sw, tI]
  omega
theorem s_solve {pt lo hi act trm : Nat → Int32} {bo co : Nat → Int64} (h : PL pt lo hi bo co act) (hT : TT (tI trm)) : ∃ o lo' hi' bo' co' act', f_X4_solve pt lo hi bo co act trm = some (o, lo', hi', bo', co', act') ∧ (∀ i : Nat, i < 10 → o i = trm i) ∧ SOL o lo' hi' bo' co' act' ∧ PL o lo' hi' bo' co' act' ∧ TT (tI o) := by
  obtain ⟨r, o, t1, t2, t3⟩ := n_take (pt := pt) (trm := trm)
  have hTo : TT (tI o) := TT_same hT (fun i hi => by show (o i).toInt = (trm i).toInt; rw [t2 i hi])
  obtain ⟨h0, h1⟩ := h
  by_cases hr : r = 0
  · have eo := t3 hr
    have so : SOL o lo hi bo co act := by
      rcases h1 with z | z
      · exfalso
        have : ∀ i : Nat, i < 5 → tI o i = 0 := fun i hi => by show (o i).toInt = 0; rw [eo, z i hi]; rfl
        have s := (sw_rng hTo).1
        unfold sw at s
        rw [this 0 (by omega), this 1 (by omega), this 2 (by omega), this 3 (by omega), this 4 (by omega)] at s
        omega
      · rw [eo]; exact z
    refine ⟨o, lo, hi, bo, co, act, ?_, t2, so, ⟨h0, Or.inr so⟩, hTo⟩
    unfold f_X4_solve
    rw [t1]
    simp only [bnd2, Option.bind_some, if_pos hr]
  · obtain ⟨m, m1, m2⟩ := pv_sum hTo lo hi bo co act trm
    have sr := sw_rng hTo
    have ml : m.toInt64.toInt = sw (tI o) := by rw [i64_of]; exact m2
    have hz : ∀ k : Nat, k ≤ 0 → (vp_updL bo 0 1 k).toInt = Sc (tI o) k := fun k hk => by
      have : k = 0 := by omega
      rw [this, updL_at, if_pos rfl]; rfl
    obtain ⟨e, e1, e2, e3⟩ := lp_one (f := fun z : Int32 × (Nat → Int32) × (Nat → Int32) × (Nat → Int64) × (Nat → Int64) × (Nat → Int32) => f_X4_solve_L42 m o trm z.1 z.2.1 z.2.2.1 z.2.2.2.1 z.2.2.2.2.1 z.2.2.2.2.2)
      (fun z => ∃ n : Nat, z.1 = Int32.ofNat (n + 1) ∧ n ≤ 5 ∧ (∀ y, -40 ≤ y → y ≤ 20 → (z.2.2.2.2.1 (cl 0 y)).toInt = 0) ∧ (∀ k : Nat, k ≤ n → (z.2.2.2.1 k).toInt = Sc (tI o) k) ∧ ∀ k : Nat, k < n → PT (tI o) k z.2.1 z.2.2.1 z.2.2.2.2.1 z.2.2.2.2.2)
      (fun e => (∀ y, -40 ≤ y → y ≤ 20 → (e.2.2.2.1 (cl 0 y)).toInt = 0) ∧ SOL o e.1 e.2.1 e.2.2.1 e.2.2.2.1 e.2.2.2.2) (fun z => msr z.1 6) (by
      rintro ⟨k, lo2, hi2, bo2, co2, act2⟩ ⟨n, q1, q2, q3, q4, q5⟩
      dsimp only at q1 q2 q3 q4 q5 ⊢
      subst q1
      unfold f_X4_solve_L42
      by_cases hn : 5 < n + 1
      · right
        rw [if_pos (show (5 : Int32) < Int32.ofNat (n + 1) from (on_lt (k := 5) (m := n + 1) (by omega) (by omega)).mpr hn)]
        have : n = 5 := by omega
        subst this
        exact ⟨_, rfl, q3, q4, q5⟩
      · left
        have nj : ¬ (5 : Int32) < Int32.ofNat (n + 1) := fun z => hn ((on_lt (k := 5) (m := n + 1) (by omega) (by omega)).mp z)
        have S0 := Sc_le hTo (n := n) (by omega)
        have S1 := Sc_le hTo (n := n + 1) (by omega)
        have bn := q4 n (Nat.le_refl _)
        have eS : Sc (tI o) n * sw (tI o) = Sc (tI o) (n + 1) := rfl
        have b1 : (bo2 n * m.toInt64).toInt = Sc (tI o) (n + 1) := by rw [i64_mul (by rw [bn, ml, eS]; omega) (by rw [bn, ml, eS]; omega), bn, ml, eS]
        have en1 : (Int32.ofNat (n + 1)).toNatClampNeg = n + 1 := (on_k (by omega)).1
        have en : (Int32.ofNat n).toNatClampNeg = n := (on_k (by omega)).1
        have u1 : ∀ k, k ≠ n + 1 → vp_updL bo2 (n + 1) (bo2 n * m.toInt64) k = bo2 k := fun k hk => by rw [updL_at, if_neg hk]
        have u2 : vp_updL bo2 (n + 1) (bo2 n * m.toInt64) (n + 1) = bo2 n * m.toInt64 := by rw [updL_at, if_pos rfl]
        have hcn : ∀ y, lw n ≤ y → y ≤ tI o 9 → (co2 (cl n y)).toInt = pl (tI o) n y := fun y y0 y1 => by
          have c1 : tI o 9 ≤ 20 := by obtain ⟨-, -, -, -, -, -, -, -, -, -, -, c1⟩ := hTo; exact c1
          cases n with
          | zero => rw [q3 y (by unfold lw at y0; omega) (by omega)]; rfl
          | succ n' => exact ((q5 n' (by omega)).1 y y0 y1).1
        obtain ⟨lo', hi', co', act', p1, p2, p3, p4⟩ := pv_period (lo := lo2) (hi := hi2) (act := act2) (bo := vp_updL bo2 (n + 1) (bo2 n * m.toInt64)) hTo (show n < 5 by omega) (by rw [u1 n (by omega)]; exact bn) (by rw [u2]; exact b1) hcn
        rw [if_neg nj, on_sub1, gd_6 (on_k (by omega)).2.2 ((on_lt (k := n) (m := 6) (by omega) (by omega)).mpr (by omega)), gd_6 (on_k (by omega)).2.2 ((on_lt (k := n + 1) (m := 6) (by omega) (by omega)).mpr (by omega)), en1, en, p1]
        simp only [bnd4, Option.bind_some]
        rw [on_inc]
        refine ⟨_, rfl, ⟨n + 1, rfl, by omega, fun y y0 y1 => ?_, fun k hk => ?_, fun k hk => ?_⟩, by dsimp only; rw [← on_inc]; exact msr_lt ((on_lt (k := n + 1) (m := 6) (by omega) (by omega)).mpr (by omega))⟩ <;> dsimp only
        · rw [(p3 0 y (by omega) y0 y1).1]; exact q3 y y0 y1
        · by_cases e : k = n + 1
          · rw [e, u2]; exact b1
          · rw [u1 k e]; exact q4 k (by omega)
        · by_cases e : k = n
          · rw [e]; exact p2
          · obtain ⟨v1, v2, v3⟩ := q5 k (by omega)
            obtain ⟨x1, x2⟩ := p4 (k + 1) (by omega)
            have c1 : tI o 9 ≤ 20 := by obtain ⟨-, -, -, -, -, -, -, -, -, -, -, c1⟩ := hTo; exact c1
            have l1 : -40 ≤ lw (k + 1) := by unfold lw; omega
            refine ⟨fun y y0 y1 => ?_, by rw [x1]; exact v2, by rw [x2]; exact v3⟩
            obtain ⟨x3, x4⟩ := p3 (k + 1) y (by omega) (by omega) (by omega)
            rw [x3, x4]; exact v1 y y0 y1) fu (1, lo, hi, vp_updL bo 0 1, co, act) ⟨0, rfl, by omega, h0, fun k hk => hz k hk, fun k hk => absurd hk (by omega)⟩ (msr_fu (by dsimp only; decide) (by decide))
    obtain ⟨lo', hi', bo', co', act'⟩ := e
    refine ⟨o, lo', hi', bo', co', act', ?_, t2, e3, ⟨e2, Or.inr e3⟩, hTo⟩
    unfold f_X4_solve
    rw [t1]
    simp only [bnd1, bnd2, Option.bind_some, if_neg hr]
    rw [m1]
    simp only [Option.bind_some]
    rw [gd_6 (by decide) (by decide)]
    have k0 : (0 : Int32).toNatClampNeg = 0 := rfl
    rw [k0, e1]
    simp only [bnd5, Option.bind_some]
/-- the model's terms -/
def WX (w x : Nat → Int32) : Prop := (∀ i : Nat, i < 5 → w (2432 + i) = x i) ∧ w 2437 = x 5 ∧ w 2438 = x 6 ∧ w 2439 = x 7 ∧ w 2440 = x 8 ∧ w 2441 = x 9
theorem n_costOf {w x : Nat → Int32} {v : Int32} (hX : WX w x) (hT : TT (tI x)) (v0 : -40 ≤ v.toInt) (v1 : v.toInt ≤ 20) : ∃ r, f_Y8_costOf v w = some r ∧ r.toInt = pay (tI x) v.toInt := by
  obtain ⟨-, -, -, x7, x8, -⟩ := hX
  obtain ⟨-, -, -, -, h6, -, h7, h7', h8, h8', -, -⟩ := hT
  have h8a : 0 ≤ (x 8).toInt ∧ (x 8).toInt ≤ 60 := ⟨by have : tI x 8 = (x 8).toInt := rfl; omega, h8'⟩
  have h7a : 0 ≤ (x 7).toInt ∧ (x 7).toInt ≤ 20 := ⟨h7, h7'⟩
  unfold f_Y8_costOf
  by_cases z : v ≤ 0
  · rw [if_pos z, gd_2450 (by decide) (by decide), show w (2440 : Int32).toNatClampNeg = x 8 from x8]
    rw [i_le, show (0 : Int32).toInt = 0 from rfl] at z
    have en : (-v).toInt = -v.toInt := by rw [Int32.toInt_neg]; exact Int.bmod_eq_of_le (by omega) (by omega)
    have m5 : 0 ≤ -v.toInt * (x 8).toInt := Int.mul_nonneg (by omega) h8a.1
    have m6 : -v.toInt * (x 8).toInt ≤ 40 * 60 := Int.mul_le_mul (by omega) h8a.2 (by omega) (by omega)
    refine ⟨_, rfl, ?_⟩
    rw [i64_mul (by rw [i64_of, i64_of, en]; omega) (by rw [i64_of, i64_of, en]; omega), i64_of, i64_of, en]
    unfold pay
    rw [if_neg (by omega), Int.mul_comm]
    rfl
  · rw [if_neg z, gd_2450 (by decide) (by decide), show w (2439 : Int32).toNatClampNeg = x 7 from x7]
    rw [i_le, show (0 : Int32).toInt = 0 from rfl] at z
    have m5 : 0 ≤ v.toInt * (x 7).toInt := Int.mul_nonneg (by omega) h7a.1
    have m6 : v.toInt * (x 7).toInt ≤ 20 * 20 := Int.mul_le_mul (by omega) h7a.2 (by omega) (by omega)
    refine ⟨_, rfl, ?_⟩
    rw [i64_mul (by rw [i64_of, i64_of]; omega) (by rw [i64_of, i64_of]; omega), i64_of, i64_of]
    unfold pay
    rw [if_pos (by omega), Int.mul_comm]
    rfl
theorem w_ix {i : Nat} (hi : i < 5) : 2432 + Int32.ofNat i = Int32.ofNat (2432 + i) := by
  apply Int32.toBitVec_inj.mp
  simp [BitVec.ofNat_add]
theorem n_stays {w x : Nat → Int32} {pn sc : Nat → Int64} {n : Nat} {v : Int32} (hX : WX w x) (hT : TT (tI x)) (hn : n < 5) (hb : (sc n).toInt = Sc (tI x) n) (hc : 1 ≤ n → ∀ y, lw n ≤ y → y ≤ tI x 9 → (pn (cl n y)).toInt = pl (tI x) n y) (v0 : lw (n + 1) ≤ v.toInt) (v1 : v.toInt ≤ tI x 9) :
    ∃ r, f_Y8_stays (Int32.ofNat (n + 1)) v w pn sc = some r ∧ r.toInt = stI (tI x) n (pl (tI x) n) v.toInt := by
  have S1 := Sc_le hT (n := n) (by omega)
  have pr := pl_rng hT n (by omega)
  have hh := hT
  obtain ⟨h1, -, -, -, h6, -, h7, h7', h8, h8', c0, c1⟩ := hh
  have B1 : 0 ≤ 2400 * (n : Int) * Sc (tI x) n := Int.mul_nonneg (by omega) (by omega)
  have B2 : 2400 * (n : Int) * Sc (tI x) n ≤ 2400 * 5 * 184528125 := Int.mul_le_mul (by omega) S1.2 (by omega) (by omega)
  obtain ⟨g1, -, -⟩ := st_rng hT hn B1 pr v0 v1
  have wr := ws_rng h1 (B := 2400 * Sc (tI x) n + 2400 * (n : Int) * Sc (tI x) n) (by omega) g1
  have lwn : lw (n + 1) = lw n + 4 := by unfold lw; omega
  have lw0 : -40 ≤ lw n := by unfold lw; omega
  obtain ⟨r, r1, r2⟩ := lp_one (f := fun z : Int64 × Int32 => f_Y8_stays_L5 (Int32.ofNat (n + 1)) v w pn sc z.1 z.2)
    (fun z => ∃ j : Nat, z.2 = Int32.ofNat j ∧ j ≤ 5 ∧ z.1.toInt = wsum (tI x) (fun i => pay (tI x) (v.toInt - i) * Sc (tI x) n + pl (tI x) n (v.toInt - i)) j) (fun r => r.toInt = stI (tI x) n (pl (tI x) n) v.toInt) (fun z => msr z.2 5) (by
    rintro ⟨b, k⟩ ⟨j, q1, q2, q3⟩
    dsimp only at q1 q2 q3 ⊢
    subst q1
    unfold f_Y8_stays_L5
    by_cases hj : 5 ≤ j
    · right
      rw [if_pos (show (5 : Int32) ≤ Int32.ofNat j from (on_le (k := 5) (m := j) (by omega) (by omega)).mpr hj)]
      have : j = 5 := by omega
      subst this
      exact ⟨b, rfl, q3⟩
    · left
      have ej := (on_k (k := j) (by omega)).2.1
      have eL : (v - Int32.ofNat j).toInt = v.toInt - j := by rw [i_sub (by rw [ej]; omega) (by rw [ej]; omega), ej]
      have nj : ¬ (5 : Int32) ≤ Int32.ofNat j := fun z => hj ((on_le (k := 5) (m := j) (by omega) (by omega)).mp z)
      have lo : -40 ≤ (v - Int32.ofNat j).toInt := by rw [eL]; omega
      have hi : (v - Int32.ofNat j).toInt ≤ 20 := by rw [eL]; omega
      obtain ⟨k1, k2, k3, k4⟩ := cl_rng (n := n) (y := (v - Int32.ofNat j).toInt) (by omega) lo hi
      have prj := pr (v.toInt - j) (by omega) (by omega)
      have par := pay_rng hT (y := v.toInt - j) (by omega) (by omega)
      have m1 : 0 ≤ pay (tI x) (v.toInt - j) * Sc (tI x) n := Int.mul_nonneg par.1 (by omega)
      have m2 : pay (tI x) (v.toInt - j) * Sc (tI x) n ≤ 2400 * 184528125 := Int.mul_le_mul par.2 S1.2 (by omega) (by omega)
      have wj := wr j (by omega)
      have wj1 := wr (j + 1) (by omega)
      have tj := h1 j (by omega)
      have BB : 9 * (2400 * Sc (tI x) n + 2400 * (n : Int) * Sc (tI x) n) * ((j + 1 : Nat) : Int) ≤ 9 * (2400 * 184528125 + 2400 * 5 * 184528125) * 6 := Int.mul_le_mul (by omega) (by omega) (by omega) (by omega)
      have m3 : 0 ≤ tI x j * (pay (tI x) (v.toInt - j) * Sc (tI x) n + pl (tI x) n (v.toInt - j)) := Int.mul_nonneg tj.1 (by omega)
      have m4 : wsum (tI x) (fun i => pay (tI x) (v.toInt - i) * Sc (tI x) n + pl (tI x) n (v.toInt - i)) (j + 1) = wsum (tI x) (fun i => pay (tI x) (v.toInt - i) * Sc (tI x) n + pl (tI x) n (v.toInt - i)) j + tI x j * (pay (tI x) (v.toInt - j) * Sc (tI x) n + pl (tI x) n (v.toInt - j)) := rfl
      have wi : w (2432 + Int32.ofNat j).toNatClampNeg = x j := by rw [w_ix (by omega), (on_k (by omega)).1]; exact hX.1 j (by omega)
      have gi : 0 ≤ 2432 + Int32.ofNat j ∧ 2432 + Int32.ofNat j < 2450 := by
        rw [w_ix (by omega)]; exact ⟨(on_k (by omega)).2.2, (on_lt (k := 2432 + j) (m := 2450) (by omega) (by omega)).mpr (by omega)⟩
      have mm : msr (Int32.ofNat (j + 1)) 5 < msr (Int32.ofNat j) 5 := by rw [← on_inc]; exact msr_lt ((on_lt (k := j) (m := 5) (by omega) (by omega)).mpr (by omega))
      have tj' : (x j).toInt64.toInt = tI x j := i64_of
      have step : ∀ t0 t1 : Int64, t0.toInt = pay (tI x) (v.toInt - j) * Sc (tI x) n → t1.toInt = pl (tI x) n (v.toInt - j) → ∃ s', f_Y8_stays_L5_J66 (Int32.ofNat (n + 1)) v b (Int32.ofNat j) t0 t1 w pn sc = some (.inl s') ∧ (∃ j' : Nat, s'.2 = Int32.ofNat j' ∧ j' ≤ 5 ∧ s'.1.toInt = wsum (tI x) (fun i => pay (tI x) (v.toInt - i) * Sc (tI x) n + pl (tI x) n (v.toInt - i)) j') ∧ msr s'.2 5 < msr (Int32.ofNat j) 5 := by
        intro t0 t1 ht0 ht1
        unfold f_Y8_stays_L5_J66 f_Y8_stays_L5_J87
        rw [gd_2450 gi.1 gi.2, wi, on_inc]
        refine ⟨_, rfl, ⟨j + 1, rfl, by omega, ?_⟩, mm⟩
        dsimp only
        have x2 : (t0 + t1).toInt = pay (tI x) (v.toInt - j) * Sc (tI x) n + pl (tI x) n (v.toInt - j) := by
          rw [i64_add (by rw [ht0, ht1]; omega) (by rw [ht0, ht1]; omega), ht0, ht1]
        have x3 : ((x j).toInt64 * (t0 + t1)).toInt = tI x j * (pay (tI x) (v.toInt - j) * Sc (tI x) n + pl (tI x) n (v.toInt - j)) := by
          rw [i64_mul (by rw [x2, tj']; omega) (by rw [x2, tj']; omega), x2, tj']
        rw [i64_add (by rw [x3, q3]; omega) (by rw [x3, q3]; omega), x3, q3, m4]
      rw [if_neg nj, gd_2450 gi.1 gi.2, wi]
      by_cases z : x j ≤ 0
      · have tz : tI x j = 0 := by
          rw [i_le, show (0 : Int32).toInt = 0 from rfl] at z
          have : tI x j = (x j).toInt := rfl
          omega
        rw [if_pos z]
        unfold f_Y8_stays_L5_J87
        rw [on_inc]
        refine ⟨_, rfl, ⟨j + 1, rfl, by omega, ?_⟩, mm⟩
        dsimp only
        rw [m4, tz, q3]; omega
      · obtain ⟨r4, c1', c2'⟩ := n_costOf hX hT lo hi
        rw [if_neg z, c1']
        simp only [bnd1, Option.bind_some]
        rw [on_sub1, gd_6 (on_k (by omega)).2.2 ((on_lt (k := n) (m := 6) (by omega) (by omega)).mpr (by omega)), (on_k (k := n) (by omega)).1]
        rw [eL] at c2'
        have x1 : (r4 * sc n).toInt = pay (tI x) (v.toInt - j) * Sc (tI x) n := by rw [i64_mul (by rw [c2', hb]; omega) (by rw [c2', hb]; omega), c2', hb]
        by_cases e : Int32.ofNat (n + 1) = 1
        · have n0 : n = 0 := by
            have := (on_k (k := n + 1) (by omega)).1
            rw [e] at this
            have h11 : (1 : Int32).toNatClampNeg = 1 := rfl
            omega
          rw [if_pos e]
          refine step _ 0 x1 ?_
          rw [n0]; rfl
        · have n1 : 1 ≤ n := by
            by_cases z : n = 0
            · rw [z] at e; exact absurd rfl e
            · omega
          rw [if_neg e, n_cellOf (by omega) lo hi]
          simp only [Option.bind_some]
          rw [gd_366 k2 k3, k1]
          exact step _ _ x1 (by rw [eL]; exact hc n1 _ (by omega) (by omega))) fu (0, 0) ⟨0, rfl, by omega, rfl⟩ (msr_fu (by dsimp only; decide) (by decide))
  exact ⟨r, by unfold f_Y8_stays; rw [r1]; rfl, r2⟩
/-- what it costs to order up to z -/
def oz (t : Nat → Int) (n : Nat) (y z : Int) : Int := t 5 * Sc t (n + 1) + Gg t n (pl t n) z - t 6 * Sc t (n + 1) * y
theorem oz_eq (t : Nat → Int) (n : Nat) (y z : Int) : (t 5 + t 6 * (z - y)) * Sc t (n + 1) + stI t n (pl t n) z = oz t n y z := by
  unfold oz Gg
  rw [Int.add_mul, Int.mul_sub, Int.sub_mul, Int.mul_assoc, Int.mul_assoc, Int.mul_comm z, Int.mul_comm y, ← Int.mul_assoc, ← Int.mul_assoc]
  omega
theorem n_ordering {w x : Nat → Int32} {sg sc : Nat → Int64} {n : Nat} {v z : Int32} (hX : WX w x) (hT : TT (tI x)) (hn : n < 5) (hb : (sc (n + 1)).toInt = Sc (tI x) (n + 1)) (v0 : lw (n + 1) ≤ v.toInt) (v1 : v.toInt ≤ tI x 9) (z0 : v.toInt ≤ z.toInt) (z1 : z.toInt ≤ tI x 9) (hz : (sg (cl (n + 1) z.toInt)).toInt = stI (tI x) n (pl (tI x) n) z.toInt) :
    ∃ r, f_Y8_ordering (Int32.ofNat (n + 1)) v z w sg sc = some r ∧ r.toInt = oz (tI x) n v.toInt z.toInt := by
  obtain ⟨b1, b2, b3, b4, b5, b6, b7, b8⟩ := sv_bnd hT hn (y := z.toInt) (by omega) z1
  have S1 := Sc_le hT (n := n + 1) (by omega)
  obtain ⟨-, x5, x6, -, -, -⟩ := hX
  have hh := hT
  obtain ⟨h1, -, h5, h5', h6, h6', -, -, -, -, c0, c1⟩ := hh
  have lw0 : -40 ≤ lw (n + 1) := by unfold lw; omega
  obtain ⟨k1, k2, k3, k4⟩ := cl_rng (n := n + 1) (y := z.toInt) (by omega) (by omega) (by omega)
  have ezv : (z - v).toInt = z.toInt - v.toInt := i_sub (by omega) (by omega)
  have e5 : (x 5).toInt64.toInt = tI x 5 := i64_of
  have e6 : (x 6).toInt64.toInt = tI x 6 := i64_of
  have ez : (z - v).toInt64.toInt = z.toInt - v.toInt := by rw [i64_of, ezv]
  have m1 : 0 ≤ tI x 6 * (z.toInt - v.toInt) := Int.mul_nonneg h6 (by omega)
  have m2 : tI x 6 * (z.toInt - v.toInt) ≤ 20 * 60 := Int.mul_le_mul h6' (by omega) (by omega) (by omega)
  have a1 : ((x 6).toInt64 * (z - v).toInt64).toInt = tI x 6 * (z.toInt - v.toInt) := by rw [i64_mul (by rw [e6, ez]; omega) (by rw [e6, ez]; omega), e6, ez]
  have a2 : ((x 5).toInt64 + (x 6).toInt64 * (z - v).toInt64).toInt = tI x 5 + tI x 6 * (z.toInt - v.toInt) := by rw [i64_add (by rw [e5, a1]; omega) (by rw [e5, a1]; omega), e5, a1]
  have m3 : 0 ≤ (tI x 5 + tI x 6 * (z.toInt - v.toInt)) * Sc (tI x) (n + 1) := Int.mul_nonneg (by omega) (by omega)
  have m4 : (tI x 5 + tI x 6 * (z.toInt - v.toInt)) * Sc (tI x) (n + 1) ≤ 1400 * 184528125 := Int.mul_le_mul (by omega) S1.2 (by omega) (by omega)
  have a3 : (((x 5).toInt64 + (x 6).toInt64 * (z - v).toInt64) * sc (n + 1)).toInt = (tI x 5 + tI x 6 * (z.toInt - v.toInt)) * Sc (tI x) (n + 1) := by rw [i64_mul (by rw [a2, hb]; omega) (by rw [a2, hb]; omega), a2, hb]
  refine ⟨((x 5).toInt64 + (x 6).toInt64 * (z - v).toInt64) * sc (n + 1) + sg (cl (n + 1) z.toInt), ?_, ?_⟩
  · unfold f_Y8_ordering
    rw [gd_2450 (by decide) (by decide), gd_2450 (by decide) (by decide), gd_6 (on_k (by omega)).2.2 ((on_lt (k := n + 1) (m := 6) (by omega) (by omega)).mpr (by omega)), n_cellOf (by omega) (by omega) (by omega)]
    simp only [bnd1, Option.bind_some]
    rw [gd_366 k2 k3, k1, (on_k (k := n + 1) (by omega)).1, show w (2437 : Int32).toNatClampNeg = x 5 from x5, show w (2438 : Int32).toNatClampNeg = x 6 from x6]
  · rw [i64_add (by rw [a3, hz]; omega) (by rw [a3, hz]; omega), a3, hz, oz_eq]
theorem n_actAt {w x : Nat → Int32} {sg sc : Nat → Int64} {n : Nat} {v : Int32} (hX : WX w x) (hT : TT (tI x)) (hn : n < 5) (hb : (sc (n + 1)).toInt = Sc (tI x) (n + 1)) (v0 : lw (n + 1) ≤ v.toInt) (v1 : v.toInt ≤ tI x 9) (hz : ∀ y, lw (n + 1) ≤ y → y ≤ tI x 9 → (sg (cl (n + 1) y)).toInt = stI (tI x) n (pl (tI x) n) y) :
    ∃ r, f_Y8_actAt (Int32.ofNat (n + 1)) v w sg sc = some r ∧ r.toInt = ac (tI x) n v.toInt := by
  have c01 : 0 ≤ tI x 9 ∧ tI x 9 ≤ 20 := by obtain ⟨-, -, -, -, -, -, -, -, -, -, c0, c1⟩ := hT; exact ⟨c0, c1⟩
  have lw0 : -40 ≤ lw (n + 1) := by unfold lw; omega
  obtain ⟨k1, k2, k3, k4⟩ := cl_rng (n := n + 1) (y := v.toInt) (by omega) (by omega) (by omega)
  have x9 : w (2441 : Int32).toNatClampNeg = x 9 := hX.2.2.2.2.2
  have e9 : (x 9).toInt = tI x 9 := rfl
  have ev1 : (v + 1).toInt = v.toInt + 1 := i_inc (by omega)
  obtain ⟨r, r1, r2⟩ := lp_one (f := fun z : Int32 × Int64 × Int32 => f_Y8_actAt_L19 (Int32.ofNat (n + 1)) v w sg sc z.1 z.2.1 z.2.2)
    (fun s => v.toInt < s.2.2.toInt ∧ s.2.2.toInt ≤ tI x 9 + 1 ∧ ((s.1 = v ∧ s.2.1.toInt = stI (tI x) n (pl (tI x) n) v.toInt ∧ ∀ y, v.toInt < y → y < s.2.2.toInt → stI (tI x) n (pl (tI x) n) v.toInt ≤ oz (tI x) n v.toInt y) ∨ (v.toInt < s.1.toInt ∧ s.1.toInt < s.2.2.toInt ∧ s.2.1.toInt = oz (tI x) n v.toInt s.1.toInt ∧ oz (tI x) n v.toInt s.1.toInt < stI (tI x) n (pl (tI x) n) v.toInt ∧ ∀ y, v.toInt < y → y < s.2.2.toInt → oz (tI x) n v.toInt s.1.toInt < oz (tI x) n v.toInt y ∨ (oz (tI x) n v.toInt s.1.toInt = oz (tI x) n v.toInt y ∧ s.1.toInt ≤ y)))) (fun r => r.toInt = ac (tI x) n v.toInt) (fun s => (30 - s.2.2.toInt).toNat) (by
    rintro ⟨b, l, to⟩ ⟨q1, q2, q3⟩
    dsimp only at q1 q2 q3 ⊢
    unfold f_Y8_actAt_L19 f_Y8_actAt_L19_J59
    rw [gd_2450 (by decide) (by decide), x9]
    by_cases hj : x 9 < to
    · right
      rw [if_pos hj]
      rw [i_lt, e9] at hj
      refine ⟨b, rfl, ?_⟩
      have hto : to.toInt = tI x 9 + 1 := by omega
      rw [hto] at q3
      rcases q3 with ⟨w1, w2, w3⟩ | ⟨w1, w2, w3, w4, w5⟩
      · have no : ¬ isO (tI x) n (pl (tI x) n) v.toInt := fun y => by
          obtain ⟨y1, y2⟩ := y
          obtain ⟨z1, z2, -⟩ := tg_LA (G := Gg (tI x) n (pl (tI x) n)) (cap := tI x 9) (tI x 9 - v.toInt - 1).toNat
          have := w3 _ (show v.toInt < tg (Gg (tI x) n (pl (tI x) n)) (tI x 9) (tI x 9 - v.toInt - 1).toNat by omega) (by omega)
          unfold oz at this
          unfold orI at y2
          omega
        unfold ac
        rw [if_neg no, w1]
      · have la : LA (Gg (tI x) n (pl (tI x) n)) (tI x 9 - (tI x 9 - v.toInt - 1).toNat) (tI x 9) b.toInt := by
          refine ⟨by omega, by omega, fun y y0 y1 => ?_⟩
          have := w5 y (by omega) (by omega)
          unfold oz at this
          omega
        have eb := LA_uniq la (tg_LA _)
        have yo : isO (tI x) n (pl (tI x) n) v.toInt := ⟨by omega, by unfold orI; rw [← eb]; unfold oz at w4; exact w4⟩
        unfold ac
        rw [if_pos yo, eb]
    · left
      rw [if_neg hj]
      rw [i_lt, e9] at hj
      obtain ⟨r6, o1, o2⟩ := n_ordering (v := v) (z := to) hX hT hn hb v0 v1 (by omega) (by omega) (hz _ (by omega) (by omega))
      have et : (to + 1).toInt = to.toInt + 1 := i_inc (by omega)
      rw [o1]
      simp only [bnd1, Option.bind_some]
      by_cases c : 0 ≤ lg_cmp r6 l
      · rw [if_pos c]
        rw [lg_lt.2.1, o2] at c
        refine ⟨_, rfl, ⟨by dsimp only; omega, by dsimp only; omega, ?_⟩, by dsimp only; omega⟩
        dsimp only
        rw [et]
        rcases q3 with ⟨w1, w2, w3⟩ | ⟨w1, w2, w3, w4, w5⟩
        · refine Or.inl ⟨w1, w2, fun y y0 y1 => ?_⟩
          by_cases e : y = to.toInt
          · rw [e]; omega
          · exact w3 y y0 (by omega)
        · refine Or.inr ⟨w1, by omega, w3, w4, fun y y0 y1 => ?_⟩
          by_cases e : y = to.toInt
          · rw [e]; omega
          · exact w5 y y0 (by omega)
      · rw [if_neg c]
        rw [lg_lt.2.1, o2] at c
        refine ⟨_, rfl, ⟨by dsimp only; omega, by dsimp only; omega, ?_⟩, by dsimp only; omega⟩
        dsimp only
        rw [et]
        rcases q3 with ⟨w1, w2, w3⟩ | ⟨w1, w2, w3, w4, w5⟩
        · refine Or.inr ⟨q1, by omega, o2, by omega, fun y y0 y1 => ?_⟩
          by_cases e : y = to.toInt
          · rw [e]; exact Or.inr ⟨rfl, Int.le_refl _⟩
          · have := w3 y y0 (by omega)
            omega
        · refine Or.inr ⟨q1, by omega, o2, by omega, fun y y0 y1 => ?_⟩
          by_cases e : y = to.toInt
          · rw [e]; exact Or.inr ⟨rfl, Int.le_refl _⟩
          · have := w5 y y0 (by omega)
            omega) fu (v, sg (cl (n + 1) v.toInt), v + 1) ⟨by dsimp only; omega, by dsimp only; omega, Or.inl ⟨rfl, hz _ v0 v1, fun y y0 y1 => by dsimp only at y1; omega⟩⟩ (by dsimp only; rw [ev1]; unfold fu; omega)
  refine ⟨r, ?_, r2⟩
  unfold f_Y8_actAt
  rw [n_cellOf (by omega) (by omega) (by omega)]
  simp only [bnd1, Option.bind_some]
  rw [gd_366 k2 k3, k1, r1]
  rfl
/-- the model's tables -/
def MS (t : Nat → Int) (N : Nat) (sg pn sc : Nat → Int64) : Prop := (∀ m : Nat, m ≤ N → (sc m).toInt = Sc t m) ∧ ∀ m : Nat, m < N → ∀ y, lw (m + 1) ≤ y → y ≤ t 9 → (sg (cl (m + 1) y)).toInt = stI t m (pl t m) y ∧ (pn (cl (m + 1) y)).toInt = pl t (m + 1) y
theorem pv_m4 : ∀ n : Nat, n < 5 → ((-40 : Int32) + 4 * Int32.ofNat (n + 1)).toInt = lw (n + 1) := by decide
theorem n_staying {w x : Nat → Int32} {sg pn sc : Nat → Int64} {n : Nat} {m v0 : Int32} (hX : WX w x) (hT : TT (tI x)) (hn : n < 5) (hb : (sc n).toInt = Sc (tI x) n) (hc : 1 ≤ n → ∀ y, lw n ≤ y → y ≤ tI x 9 → (pn (cl n y)).toInt = pl (tI x) n y) (h0 : v0.toInt = lw (n + 1)) :
    ∃ sg', loop (fun z : Int32 × (Nat → Int64) => f_Y8_plans_L69 m (Int32.ofNat (n + 1)) v0 w pn sc z.1 z.2) fu (v0, sg) = some sg' ∧ (∀ y, lw (n + 1) ≤ y → y ≤ tI x 9 → (sg' (cl (n + 1) y)).toInt = stI (tI x) n (pl (tI x) n) y) ∧ ∀ k y, k ≠ n + 1 → -40 ≤ y → y ≤ 20 → sg' (cl k y) = sg (cl k y) := by
  have c01 : 0 ≤ tI x 9 ∧ tI x 9 ≤ 20 := by obtain ⟨-, -, -, -, -, -, -, -, -, -, c0, c1⟩ := hT; exact ⟨c0, c1⟩
  have lw0 : -40 ≤ lw (n + 1) := by unfold lw; omega
  have lw1 : lw (n + 1) ≤ -20 := by unfold lw; omega
  have x9 : w (2441 : Int32).toNatClampNeg = x 9 := hX.2.2.2.2.2
  have e9 : (x 9).toInt = tI x 9 := rfl
  refine lp_one (f := fun z : Int32 × (Nat → Int64) => f_Y8_plans_L69 m (Int32.ofNat (n + 1)) v0 w pn sc z.1 z.2)
    (fun z => lw (n + 1) ≤ z.1.toInt ∧ z.1.toInt ≤ tI x 9 + 1 ∧ (∀ y, lw (n + 1) ≤ y → y < z.1.toInt → (z.2 (cl (n + 1) y)).toInt = stI (tI x) n (pl (tI x) n) y) ∧ ∀ k y, k ≠ n + 1 → -40 ≤ y → y ≤ 20 → z.2 (cl k y) = sg (cl k y)) _ (fun z => (30 - z.1.toInt).toNat) ?_ fu _ ⟨by dsimp only; omega, by dsimp only; omega, fun y y0 y1 => by dsimp only at y1; omega, fun _ _ _ _ _ => rfl⟩ (by dsimp only; rw [h0]; unfold fu; omega)
  rintro ⟨v, s⟩ ⟨q1, q2, q3, q4⟩
  dsimp only at q1 q2 q3 q4 ⊢
  unfold f_Y8_plans_L69
  rw [gd_2450 (by decide) (by decide), x9]
  by_cases hj : x 9 < v
  · right
    rw [if_pos hj]
    rw [i_lt, e9] at hj
    exact ⟨s, rfl, fun y y0 y1 => q3 y y0 (by omega), q4⟩
  · left
    rw [if_neg hj]
    rw [i_lt, e9] at hj
    obtain ⟨r, r1, r2⟩ := n_stays hX hT hn hb hc q1 (by omega)
    obtain ⟨k1, k2, k3, k4⟩ := cl_rng (n := n + 1) (y := v.toInt) (by omega) (by omega) (by omega)
    have et : (v + 1).toInt = v.toInt + 1 := i_inc (by omega)
    rw [n_cellOf (by omega) (by omega) (by omega)]
    simp only [bnd1, Option.bind_some]
    rw [r1]
    simp only [Option.bind_some]
    rw [gd_366 k2 k3, k1]
    refine ⟨_, rfl, ⟨by dsimp only; omega, by dsimp only; omega, fun y y0 y1 => ?_, fun k y k0 y0 y1 => ?_⟩, by dsimp only; omega⟩ <;> dsimp only at *
    · by_cases e : y = v.toInt
      · rw [e, updL_at, if_pos rfl]; exact r2
      · rw [updL_at, if_neg (cl_ne (by omega) (by omega) (by omega) (by omega) (fun z => e z.2))]
        exact q3 y y0 (by omega)
    · rw [updL_at, if_neg (cl_ne y0 y1 (by omega) (by omega) (fun z => k0 z.1))]
      exact q4 k y k0 y0 y1
theorem n_planned {w x : Nat → Int32} {sg pn sc : Nat → Int64} {n : Nat} {m v0 : Int32} (hX : WX w x) (hT : TT (tI x)) (hn : n < 5) (hb : (sc (n + 1)).toInt = Sc (tI x) (n + 1)) (hz : ∀ y, lw (n + 1) ≤ y → y ≤ tI x 9 → (sg (cl (n + 1) y)).toInt = stI (tI x) n (pl (tI x) n) y) (h0 : v0.toInt = lw (n + 1)) :
    ∃ pn', loop (fun z : Int32 × (Nat → Int64) => f_Y8_plans_L109 m (Int32.ofNat (n + 1)) w sg sc z.1 z.2) fu (v0, pn) = some pn' ∧ (∀ y, lw (n + 1) ≤ y → y ≤ tI x 9 → (pn' (cl (n + 1) y)).toInt = pl (tI x) (n + 1) y) ∧ ∀ k y, k ≠ n + 1 → -40 ≤ y → y ≤ 20 → pn' (cl k y) = pn (cl k y) := by
  have c01 : 0 ≤ tI x 9 ∧ tI x 9 ≤ 20 := by obtain ⟨-, -, -, -, -, -, -, -, -, -, c0, c1⟩ := hT; exact ⟨c0, c1⟩
  have lw0 : -40 ≤ lw (n + 1) := by unfold lw; omega
  have lw1 : lw (n + 1) ≤ -20 := by unfold lw; omega
  have x9 : w (2441 : Int32).toNatClampNeg = x 9 := hX.2.2.2.2.2
  have e9 : (x 9).toInt = tI x 9 := rfl
  refine lp_one (f := fun z : Int32 × (Nat → Int64) => f_Y8_plans_L109 m (Int32.ofNat (n + 1)) w sg sc z.1 z.2)
    (fun z => lw (n + 1) ≤ z.1.toInt ∧ z.1.toInt ≤ tI x 9 + 1 ∧ (∀ y, lw (n + 1) ≤ y → y < z.1.toInt → (z.2 (cl (n + 1) y)).toInt = pl (tI x) (n + 1) y) ∧ ∀ k y, k ≠ n + 1 → -40 ≤ y → y ≤ 20 → z.2 (cl k y) = pn (cl k y)) _ (fun z => (30 - z.1.toInt).toNat) ?_ fu _ ⟨by dsimp only; omega, by dsimp only; omega, fun y y0 y1 => by dsimp only at y1; omega, fun _ _ _ _ _ => rfl⟩ (by dsimp only; rw [h0]; unfold fu; omega)
  rintro ⟨v, s⟩ ⟨q1, q2, q3, q4⟩
  dsimp only at q1 q2 q3 q4 ⊢
  unfold f_Y8_plans_L109
  rw [gd_2450 (by decide) (by decide), x9]
  by_cases hj : x 9 < v
  · right
    rw [if_pos hj]
    rw [i_lt, e9] at hj
    exact ⟨s, rfl, fun y y0 y1 => q3 y y0 (by omega), q4⟩
  · left
    rw [if_neg hj]
    rw [i_lt, e9] at hj
    obtain ⟨r, r1, r2⟩ := n_actAt hX hT hn hb q1 (by omega) hz
    obtain ⟨k1, k2, k3, k4⟩ := cl_rng (n := n + 1) (y := v.toInt) (by omega) (by omega) (by omega)
    have et : (v + 1).toInt = v.toInt + 1 := i_inc (by omega)
    have key : ∀ X : Int64, X.toInt = pl (tI x) (n + 1) v.toInt → ∃ s', f_Y8_plans_L109_J171 m (Int32.ofNat (n + 1)) v (Int32.ofNat (cl (n + 1) v.toInt)) X w sg s sc = some (.inl s') ∧ (lw (n + 1) ≤ s'.1.toInt ∧ s'.1.toInt ≤ tI x 9 + 1 ∧ (∀ y, lw (n + 1) ≤ y → y < s'.1.toInt → (s'.2 (cl (n + 1) y)).toInt = pl (tI x) (n + 1) y) ∧ ∀ k y, k ≠ n + 1 → -40 ≤ y → y ≤ 20 → s'.2 (cl k y) = pn (cl k y)) ∧ (30 - s'.1.toInt).toNat < (30 - v.toInt).toNat := by
      intro X hX'
      unfold f_Y8_plans_L109_J171
      rw [gd_366 k2 k3, k1]
      refine ⟨_, rfl, ⟨by dsimp only; omega, by dsimp only; omega, fun y y0 y1 => ?_, fun k y k0 y0 y1 => ?_⟩, by dsimp only; omega⟩ <;> dsimp only at *
      · by_cases e : y = v.toInt
        · rw [e, updL_at, if_pos rfl]; exact hX'
        · rw [updL_at, if_neg (cl_ne (by omega) (by omega) (by omega) (by omega) (fun z => e z.2))]
          exact q3 y y0 (by omega)
      · rw [updL_at, if_neg (cl_ne y0 y1 (by omega) (by omega) (fun z => k0 z.1))]
        exact q4 k y k0 y0 y1
    rw [r1]
    simp only [bnd1, Option.bind_some]
    rw [n_cellOf (by omega) (by omega) (by omega)]
    simp only [Option.bind_some]
    by_cases c : r = v
    · rw [if_pos c, gd_366 k2 k3, k1]
      refine key _ ?_
      rw [hz _ q1 (by omega)]
      have no : ¬ isO (tI x) n (pl (tI x) n) v.toInt := fun yo => by
        rw [c] at r2
        unfold ac at r2
        rw [if_pos yo] at r2
        obtain ⟨z1, z2, -⟩ := tg_LA (G := Gg (tI x) n (pl (tI x) n)) (cap := tI x 9) (tI x 9 - v.toInt - 1).toNat
        have := yo.1
        omega
      show _ = (if isO (tI x) n (pl (tI x) n) v.toInt then _ else _)
      rw [if_neg no]
    · rw [if_neg c]
      have yo : isO (tI x) n (pl (tI x) n) v.toInt := by
        by_cases w : isO (tI x) n (pl (tI x) n) v.toInt
        · exact w
        · unfold ac at r2
          rw [if_neg w] at r2
          exact absurd (i_eq.mpr r2) c
      unfold ac at r2
      rw [if_pos yo] at r2
      obtain ⟨z1, z2, -⟩ := tg_LA (G := Gg (tI x) n (pl (tI x) n)) (cap := tI x 9) (tI x 9 - v.toInt - 1).toNat
      have y1 := yo.1
      obtain ⟨r6, o1, o2⟩ := n_ordering (v := v) (z := r) hX hT hn hb q1 (by omega) (by omega) (by omega) (hz _ (by omega) (by omega))
      rw [o1]
      simp only [Option.bind_some]
      refine key _ ?_
      rw [o2]
      show _ = (if isO (tI x) n (pl (tI x) n) v.toInt then _ else _)
      rw [if_pos yo, r2]
      rfl
theorem s_plans {w x : Nat → Int32} {sg pn sc : Nat → Int64} (hX : WX w x) (hT : TT (tI x)) : ∃ sg' pn' sc', f_Y8_plans w sg pn sc = some (sg', pn', sc') ∧ MS (tI x) 5 sg' pn' sc' := by
  have sr := sw_rng hT
  have h1 := hT.1
  obtain ⟨m, m1, m2⟩ := lp_one (f := fun z : Int32 × Int32 => f_Y8_plans_L4 w sg pn sc z.1 z.2)
    (fun z => ∃ j : Nat, z.2 = Int32.ofNat j ∧ j ≤ 5 ∧ z.1.toInt = wsum (fun i => (x i).toInt) (fun _ => 1) j ∧ 0 ≤ z.1.toInt ∧ z.1.toInt ≤ 9 * j) (fun m => m.toInt = wsum (fun i => (x i).toInt) (fun _ => 1) 5) (fun z => msr z.2 5) (by
    rintro ⟨b, k⟩ ⟨j, q1, q2, q3, q4, q5⟩
    dsimp only at q1 q2 q3 q4 q5 ⊢
    subst q1
    unfold f_Y8_plans_L4
    by_cases hj : 5 ≤ j
    · right
      rw [if_pos (show (5 : Int32) ≤ Int32.ofNat j from (on_le (k := 5) (m := j) (by omega) (by omega)).mpr hj)]
      have : j = 5 := by omega
      subst this
      exact ⟨_, rfl, q3⟩
    · left
      have nj : ¬ (5 : Int32) ≤ Int32.ofNat j := fun z => hj ((on_le (k := 5) (m := j) (by omega) (by omega)).mp z)
      have tj : 0 ≤ (x j).toInt ∧ (x j).toInt ≤ 9 := h1 j (by omega)
      have s : (b + x j).toInt = b.toInt + (x j).toInt := i_add (by omega) (by omega)
      have wi : w (2432 + Int32.ofNat j).toNatClampNeg = x j := by rw [w_ix (by omega), (on_k (by omega)).1]; exact hX.1 j (by omega)
      have gi : 0 ≤ 2432 + Int32.ofNat j ∧ 2432 + Int32.ofNat j < 2450 := by
        rw [w_ix (by omega)]; exact ⟨(on_k (by omega)).2.2, (on_lt (k := 2432 + j) (m := 2450) (by omega) (by omega)).mpr (by omega)⟩
      rw [if_neg nj, gd_2450 gi.1 gi.2, wi, on_inc]
      refine ⟨_, rfl, ⟨j + 1, rfl, by omega, ?_, ?_, ?_⟩, by dsimp only; rw [← on_inc]; exact msr_lt ((on_lt (k := j) (m := 5) (by omega) (by omega)).mpr (by omega))⟩ <;> dsimp only
      · rw [s, q3]; show _ = wsum _ _ j + (x j).toInt * 1; omega
      · omega
      · omega) fu (0, 0) ⟨0, rfl, by omega, rfl, by decide, by decide⟩ (msr_fu (by dsimp only; decide) (by decide))
  have ms : m.toInt = sw (tI x) := by
    rw [m2]
    simp only [wsum, sw, tI]
    omega
  have ml : m.toInt64.toInt = sw (tI x) := by rw [i64_of]; exact ms
  have hz : ∀ k : Nat, k ≤ 0 → (vp_updL sc 0 1 k).toInt = Sc (tI x) k := fun k hk => by
    have : k = 0 := by omega
    rw [this, updL_at, if_pos rfl]; rfl
  obtain ⟨e, e1, e2⟩ := lp_one (f := fun z : Int32 × (Nat → Int64) × (Nat → Int64) × (Nat → Int64) => f_Y8_plans_L37 m w z.1 z.2.1 z.2.2.1 z.2.2.2)
    (fun z => ∃ n : Nat, z.1 = Int32.ofNat (n + 1) ∧ n ≤ 5 ∧ MS (tI x) n z.2.1 z.2.2.1 z.2.2.2) (fun e => MS (tI x) 5 e.1 e.2.1 e.2.2) (fun z => msr z.1 6) (by
    rintro ⟨k, sg2, pn2, sc2⟩ ⟨n, q1, q2, q4, q5⟩
    dsimp only at q1 q2 q4 q5 ⊢
    subst q1
    unfold f_Y8_plans_L37
    by_cases hn : 5 < n + 1
    · right
      rw [if_pos (show (5 : Int32) < Int32.ofNat (n + 1) from (on_lt (k := 5) (m := n + 1) (by omega) (by omega)).mpr hn)]
      have : n = 5 := by omega
      subst this
      exact ⟨_, rfl, q4, q5⟩
    · left
      have nj : ¬ (5 : Int32) < Int32.ofNat (n + 1) := fun z => hn ((on_lt (k := 5) (m := n + 1) (by omega) (by omega)).mp z)
      have S0 := Sc_le hT (n := n) (by omega)
      have S1 := Sc_le hT (n := n + 1) (by omega)
      have bn := q4 n (Nat.le_refl _)
      have eS : Sc (tI x) n * sw (tI x) = Sc (tI x) (n + 1) := rfl
      have b1 : (sc2 n * m.toInt64).toInt = Sc (tI x) (n + 1) := by rw [i64_mul (by rw [bn, ml, eS]; omega) (by rw [bn, ml, eS]; omega), bn, ml, eS]
      have en1 : (Int32.ofNat (n + 1)).toNatClampNeg = n + 1 := (on_k (by omega)).1
      have en : (Int32.ofNat n).toNatClampNeg = n := (on_k (by omega)).1
      have u1 : ∀ k, k ≠ n + 1 → vp_updL sc2 (n + 1) (sc2 n * m.toInt64) k = sc2 k := fun k hk => by rw [updL_at, if_neg hk]
      have u2 : vp_updL sc2 (n + 1) (sc2 n * m.toInt64) (n + 1) = sc2 n * m.toInt64 := by rw [updL_at, if_pos rfl]
      have c1 : tI x 9 ≤ 20 := by obtain ⟨-, -, -, -, -, -, -, -, -, -, -, c1⟩ := hT; exact c1
      have h4 := pv_m4 n (by omega)
      generalize hv : (-40 : Int32) + 4 * Int32.ofNat (n + 1) = v0 at h4
      obtain ⟨sg', s1, s2, s3⟩ := n_staying (sg := sg2) (pn := pn2) (sc := vp_updL sc2 (n + 1) (sc2 n * m.toInt64)) (m := m) hX hT (show n < 5 by omega) (by rw [u1 n (by omega)]; exact bn) (fun n1 y y0 y1 => by
        cases n with
        | zero => omega
        | succ n' => exact (q5 n' (by omega) y y0 y1).2) h4
      obtain ⟨pn', p1, p2, p3⟩ := n_planned (sg := sg') (pn := pn2) (sc := vp_updL sc2 (n + 1) (sc2 n * m.toInt64)) (m := m) hX hT (show n < 5 by omega) (by rw [u2]; exact b1) s2 h4
      rw [if_neg nj, on_sub1, gd_6 (on_k (by omega)).2.2 ((on_lt (k := n) (m := 6) (by omega) (by omega)).mpr (by omega)), gd_6 (on_k (by omega)).2.2 ((on_lt (k := n + 1) (m := 6) (by omega) (by omega)).mpr (by omega)), en1, en, s1]
      simp only [bnd1, Option.bind_some]
      rw [p1]
      simp only [Option.bind_some]
      rw [on_inc]
      refine ⟨_, rfl, ⟨n + 1, rfl, by omega, fun k hk => ?_, fun k hk y y0 y1 => ?_⟩, by dsimp only; rw [← on_inc]; exact msr_lt ((on_lt (k := n + 1) (m := 6) (by omega) (by omega)).mpr (by omega))⟩ <;> dsimp only
      · by_cases e : k = n + 1
        · rw [e, u2]; exact b1
        · rw [u1 k e]; exact q4 k (by omega)
      · by_cases e : k = n
        · subst e
          exact ⟨s2 y y0 y1, p2 y y0 y1⟩
        · have l1 : -40 ≤ lw (k + 1) := by unfold lw; omega
          rw [s3 (k + 1) y (by omega) (by omega) (by omega), p3 (k + 1) y (by omega) (by omega) (by omega)]
          exact q5 k (by omega) y y0 y1) fu (1, sg, pn, vp_updL sc 0 1) ⟨0, rfl, by omega, fun k hk => hz k hk, fun k hk => absurd hk (by omega)⟩ (msr_fu (by dsimp only; decide) (by decide))
  obtain ⟨sg', pn', sc'⟩ := e
  refine ⟨sg', pn', sc', ?_, e2⟩
  unfold f_Y8_plans
  rw [m1]
  simp only [bnd1, Option.bind_some]
  have k0 : (0 : Int32).toNatClampNeg = 0 := rfl
  rw [gd_6 (by decide) (by decide), k0, e1]
  simp only [bnd3, Option.bind_some]
