/-! ===== the number of bits ===== -/
def nv (v : Int64) : Nat := v.toBitVec.toNat
def shv (v : Int64) (k : Int32) : Int64 := (v.toUInt64 >>> (k.toInt64.toUInt64 &&& Int64.toUInt64 63)).toInt64
theorem nv_and {a b : Int64} : nv (a &&& b) = nv a &&& nv b := by
  unfold nv; rw [Int64.toBitVec_and, BitVec.toNat_and]
theorem nv_add {a b : Int64} : nv (a + b) = (nv a + nv b) % 18446744073709551616 := by
  unfold nv; rw [Int64.toBitVec_add, BitVec.toNat_add]
theorem nv_sub {a b : Int64} (h : nv b ≤ nv a) : nv (a - b) = nv a - nv b := by
  have h1 := a.toBitVec.isLt
  have h2 := b.toBitVec.isLt
  unfold nv at *
  rw [Int64.toBitVec_sub, BitVec.toNat_sub]
  omega
theorem nv_sh {v : Int64} {k : Int32} {n : Nat} (h : (k.toInt64.toUInt64 &&& Int64.toUInt64 63) = UInt64.ofNat n) (hn : n < 64) : nv (shv v k) = nv v / 2 ^ n := by
  unfold nv shv
  rw [h]
  show (v.toUInt64 >>> UInt64.ofNat n).toBitVec.toNat = _
  show (v.toUInt64 >>> UInt64.ofNat n).toNat = _
  rw [UInt64.toNat_shiftRight]
  have : (UInt64.ofNat n).toNat = n := by
    rw [UInt64.toNat_ofNat']; exact Nat.mod_eq_of_lt (by omega)
  rw [this, Nat.mod_eq_of_lt hn, Nat.shiftRight_eq_div_pow]
  rfl
/-- a mask: a byte's mask, n times -/
def msk (m : Nat) : Nat → Nat
  | 0 => 0
  | n + 1 => m + 256 * msk m n
/-- a function on each of n bytes -/
def bym (f : Nat → Nat) : Nat → Nat → Nat
  | 0, _ => 0
  | n + 1, X => f (X % 256) + 256 * bym f n (X / 256)
theorem bym_lt {f : Nat → Nat} (h : ∀ b, b < 256 → f b < 256) : ∀ (n X : Nat), bym f (n + 1) X % 256 = f (X % 256) ∧ bym f (n + 1) X / 256 = bym f n (X / 256) := by
  intro n X
  have := h (X % 256) (Nat.mod_lt _ (by decide))
  show (f (X % 256) + 256 * bym f n (X / 256)) % 256 = _ ∧ (f (X % 256) + 256 * bym f n (X / 256)) / 256 = _
  omega
theorem and_split (a b : Nat) : a &&& b = (a % 256 &&& b % 256) + 256 * (a / 256 &&& b / 256) := by
  have h1 := Nat.and_mod_two_pow (a := a) (b := b) (n := 8)
  have h2 := Nat.and_div_two_pow (a := a) (b := b) (n := 8)
  have e : (2 : Nat) ^ 8 = 256 := rfl
  rw [e] at h1 h2
  rw [← h1, ← h2]
  omega
/-- a shift and a mask work byte by byte -/
theorem sh_msk {d m : Nat} {f : Nat → Nat} (hm : m < 256) (hd : d ∣ 256) (hd0 : 0 < d) (hf : ∀ b y : Nat, b < 256 → y < d → ((b / d + 256 / d * y) &&& m) = f b) (h0 : f 0 = 0) : ∀ n X : Nat, (X / d) &&& msk m n = bym f n X := by
  intro n
  induction n with
  | zero => intro X; exact Nat.and_zero _
  | succ n ih =>
    intro X
    obtain ⟨q, hq⟩ := hd
    have hq2 : 256 / d = q := by rw [hq]; exact Nat.mul_div_cancel_left _ hd0
    have e1 : msk m (n + 1) % 256 = m := by show (m + 256 * msk m n) % 256 = m; omega
    have e2 : msk m (n + 1) / 256 = msk m n := by show (m + 256 * msk m n) / 256 = _; omega
    rw [and_split, e1, e2]
    have e3 : X / d / 256 = X / 256 / d := by rw [Nat.div_div_eq_div_mul, Nat.div_div_eq_div_mul, Nat.mul_comm]
    have e4 : X / d % 256 = X % 256 / d + 256 / d * (X / 256 % d) := by
      rw [hq2]
      have hX : X = X % 256 + 256 * (X / 256) := by omega
      have h5 : X / d = X % 256 / d + q * (X / 256) := by
        have : X = X % 256 + d * (q * (X / 256)) := by rw [← Nat.mul_assoc, ← hq]; exact hX
        conv => lhs; rw [this]
        rw [Nat.add_mul_div_left _ _ hd0]
      have h6 : q * (X / 256) = q * (X / 256 % d) + 256 * (X / 256 / d) := by
        have h7 : X / 256 = X / 256 % d + d * (X / 256 / d) := (Nat.mod_add_div _ _).symm
        conv => lhs; rw [h7]
        rw [Nat.mul_add, ← Nat.mul_assoc, Nat.mul_comm q d, ← hq]
      have h8 : X % 256 / d < q := Nat.div_lt_of_lt_mul (by rw [← hq]; exact Nat.mod_lt _ (by decide))
      have h9 : X / 256 % d ≤ d - 1 := by have := Nat.mod_lt (X / 256) hd0; omega
      have h10 : q * (X / 256 % d) + q ≤ 256 := by
        have : q * (X / 256 % d) ≤ q * (d - 1) := Nat.mul_le_mul_left _ h9
        have h11 : q * (d - 1) + q = q * d := by
          obtain ⟨d', rfl⟩ : ∃ d', d = d' + 1 := ⟨d - 1, by omega⟩
          rw [Nat.add_sub_cancel, Nat.mul_succ]
        rw [Nat.mul_comm q d, ← hq] at h11
        omega
      rw [h5, h6]; omega
    rw [e4, hf _ _ (Nat.mod_lt _ (by decide)) (Nat.mod_lt _ hd0), e3, ih]
    rfl
theorem bym_add {f g : Nat → Nat} : ∀ n X : Nat, bym f n X + bym g n X = bym (fun b => f b + g b) n X := by
  intro n
  induction n with
  | zero => intro X; rfl
  | succ n ih =>
    intro X
    have := ih (X / 256)
    show (f (X % 256) + 256 * bym f n (X / 256)) + (g (X % 256) + 256 * bym g n (X / 256)) = (f (X % 256) + g (X % 256)) + 256 * bym (fun b => f b + g b) n (X / 256)
    omega
theorem bym_eq {f g : Nat → Nat} (h : ∀ b, b < 256 → f b = g b) : ∀ n X : Nat, bym f n X = bym g n X := by
  intro n
  induction n with
  | zero => intro X; rfl
  | succ n ih =>
    intro X
    show f (X % 256) + 256 * bym f n (X / 256) = g (X % 256) + 256 * bym g n (X / 256)
    rw [ih, h _ (Nat.mod_lt _ (by decide))]
theorem bym_id : ∀ n X : Nat, X < 256 ^ n → bym (fun b => b) n X = X := by
  intro n
  induction n with
  | zero => intro X h; show 0 = X; have : (256 : Nat) ^ 0 = 1 := rfl; omega
  | succ n ih =>
    intro X h
    have h1 : X / 256 < 256 ^ n := Nat.div_lt_of_lt_mul (by rw [Nat.mul_comm, ← Nat.pow_succ]; exact h)
    show X % 256 + 256 * bym (fun b => b) n (X / 256) = X
    rw [ih _ h1]; omega
theorem bym_comp {f g : Nat → Nat} (h : ∀ b, b < 256 → f b < 256) : ∀ n X : Nat, bym g n (bym f n X) = bym (fun b => g (f b)) n X := by
  intro n
  induction n with
  | zero => intro X; rfl
  | succ n ih =>
    intro X
    obtain ⟨h1, h2⟩ := bym_lt h n X
    show g (bym f (n + 1) X % 256) + 256 * bym g n (bym f (n + 1) X / 256) = g (f (X % 256)) + 256 * bym (fun b => g (f b)) n (X / 256)
    rw [h1, h2, ih]
theorem bym_le {f : Nat → Nat} {c : Nat} (h : ∀ b, b < 256 → f b ≤ c) : ∀ n X : Nat, bym f n X ≤ msk c n := by
  intro n
  induction n with
  | zero => intro X; exact Nat.le_refl _
  | succ n ih =>
    intro X
    have h1 := h (X % 256) (Nat.mod_lt _ (by decide))
    have h2 := ih (X / 256)
    show f (X % 256) + 256 * bym f n (X / 256) ≤ c + 256 * msk c n
    omega
/-- nibbles' sums -/
theorem nib {f : Nat → Nat} (h : ∀ b, b < 256 → f b % 16 ≤ 4 ∧ f b ≤ 68) : ∀ n X : Nat, (bym f n X + bym f n X / 16) &&& msk 15 n = bym (fun b => (f b + f b / 16) % 16) n X := by
  intro n
  induction n with
  | zero => intro X; exact Nat.and_zero _
  | succ n ih =>
    intro X
    obtain ⟨b1, b2⟩ := bym_lt (f := f) (fun b hb => by have := (h b hb).2; omega) n X
    have h1 := h (X % 256) (Nat.mod_lt _ (by decide))
    have e1 : msk 15 (n + 1) % 256 = 15 := by show (15 + 256 * msk 15 n) % 256 = 15; omega
    have e2 : msk 15 (n + 1) / 256 = msk 15 n := by show (15 + 256 * msk 15 n) / 256 = _; omega
    have h3 : bym f n (X / 256) % 16 ≤ 4 := by
      cases n with
      | zero => show 0 % 16 ≤ 4; omega
      | succ n =>
        obtain ⟨c1, -⟩ := bym_lt (f := f) (fun b hb => by have := (h b hb).2; omega) n (X / 256)
        have := (h (X / 256 % 256) (Nat.mod_lt _ (by decide))).1
        omega
    have hZ : bym f (n + 1) X = f (X % 256) + 256 * bym f n (X / 256) := rfl
    have e3 : (bym f (n + 1) X + bym f (n + 1) X / 16) / 256 = bym f n (X / 256) + bym f n (X / 256) / 16 := by rw [hZ]; omega
    have e4 : (bym f (n + 1) X + bym f (n + 1) X / 16) % 256 = f (X % 256) + f (X % 256) / 16 + 16 * (bym f n (X / 256) % 16) := by rw [hZ]; omega
    have e5 : ∀ z : Nat, z &&& 15 = z % 16 := fun z => Nat.and_two_pow_sub_one_eq_mod z 4
    rw [and_split, e1, e2, e3, e4, ih, e5]
    show _ = (f (X % 256) + f (X % 256) / 16) % 16 + 256 * bym (fun b => (f b + f b / 16) % 16) n (X / 256)
    omega
def t1 (b : Nat) : Nat := b - ((b / 2) &&& 85)
def t2 (b : Nat) : Nat := (t1 b &&& 51) + ((t1 b / 4) &&& 51)
/-- the bits of a byte -/
def cb (b : Nat) : Nat := b % 2 + b / 2 % 2 + b / 4 % 2 + b / 8 % 2 + b / 16 % 2 + b / 32 % 2 + b / 64 % 2 + b / 128 % 2
theorem all256 {p : Nat → Prop} [DecidablePred p] (h : (List.range 256).all (fun b => decide (p b)) = true) : ∀ b, b < 256 → p b := by
  intro b hb
  have := List.all_eq_true.mp h b (List.mem_range.mpr hb)
  exact of_decide_eq_true this
theorem t_facts : ∀ b, b < 256 → ((b / 2) &&& 85) ≤ b ∧ t1 b < 256 ∧ t2 b % 16 ≤ 4 ∧ t2 b ≤ 68 ∧ (t2 b + t2 b / 16) % 16 = cb b ∧ cb b ≤ 8 := all256 (p := fun b => ((b / 2) &&& 85) ≤ b ∧ t1 b < 256 ∧ t2 b % 16 ≤ 4 ∧ t2 b ≤ 68 ∧ (t2 b + t2 b / 16) % 16 = cb b ∧ cb b ≤ 8) (by decide +kernel)
theorem f55 : ∀ b y : Nat, b < 256 → y < 2 → ((b / 2 + 256 / 2 * y) &&& 85) = ((b / 2) &&& 85) := fun b y hb hy => all256 (p := fun b => ∀ y, y < 2 → ((b / 2 + 256 / 2 * y) &&& 85) = ((b / 2) &&& 85)) (by decide +kernel) b hb y hy
theorem f33 : ∀ b y : Nat, b < 256 → y < 4 → ((b / 4 + 256 / 4 * y) &&& 51) = ((b / 4) &&& 51) := fun b y hb hy => all256 (p := fun b => ∀ y, y < 4 → ((b / 4 + 256 / 4 * y) &&& 51) = ((b / 4) &&& 51)) (by decide +kernel) b hb y hy
theorem f33b : ∀ b y : Nat, b < 256 → y < 1 → ((b / 1 + 256 / 1 * y) &&& 51) = (b &&& 51) := fun b y hb hy => by
  have : y = 0 := by omega
  subst this; rw [Nat.div_one, Nat.mul_zero, Nat.add_zero]
theorem bym_mono {f g : Nat → Nat} (h : ∀ b, b < 256 → f b ≤ g b) : ∀ n X : Nat, bym f n X ≤ bym g n X := by
  intro n
  induction n with
  | zero => intro X; exact Nat.le_refl _
  | succ n ih =>
    intro X
    have h1 := h (X % 256) (Nat.mod_lt _ (by decide))
    have h2 := ih (X / 256)
    show f (X % 256) + 256 * bym f n (X / 256) ≤ g (X % 256) + 256 * bym g n (X / 256)
    omega
def bc1 (v : Int64) : Int64 := v - (shv v 1 &&& 6148914691236517205)
def bc2 (v : Int64) : Int64 := (bc1 v &&& 3689348814741910323) + (shv (bc1 v) 2 &&& 3689348814741910323)
def bc3 (v : Int64) : Int64 := (bc2 v + shv (bc2 v) 4) &&& 1085102592571150095
def bc4 (v : Int64) : Int64 := bc3 v + shv (bc3 v) 8
def bc5 (v : Int64) : Int64 := bc4 v + shv (bc4 v) 16
def bc6 (v : Int64) : Int64 := bc5 v + shv (bc5 v) 32
theorem bc_eq (v : Int64) : f_J13_bitCount_95d88 v = some ((bc6 v).toInt32 &&& 127) := rfl
theorem nv_bc1 (v : Int64) : nv (bc1 v) = bym t1 8 (nv v) := by
  have hX : nv v < 256 ^ 8 := v.toBitVec.isLt
  have e1 : nv (shv v 1 &&& 6148914691236517205) = bym (fun b => (b / 2) &&& 85) 8 (nv v) := by
    rw [nv_and, nv_sh (n := 1) (by decide) (by decide)]
    exact sh_msk (d := 2) (m := 85) (by decide) (by decide) (by decide) f55 (by decide) 8 (nv v)
  have e2 := bym_mono (f := fun b => (b / 2) &&& 85) (g := fun b => b) (fun b hb => (t_facts b hb).1) 8 (nv v)
  rw [bym_id 8 _ hX] at e2
  unfold bc1
  rw [nv_sub (by rw [e1]; exact e2), e1]
  have e3 : bym t1 8 (nv v) + bym (fun b => (b / 2) &&& 85) 8 (nv v) = nv v := by
    rw [bym_add, bym_eq (g := fun b => b) (fun b hb => by have := (t_facts b hb).1; unfold t1; omega), bym_id 8 _ hX]
  omega
theorem nv_bc2 (v : Int64) : nv (bc2 v) = bym t2 8 (nv v) := by
  have e1 : nv (bc1 v &&& 3689348814741910323) = bym (fun b => t1 b &&& 51) 8 (nv v) := by
    rw [nv_and, nv_bc1]
    have := sh_msk (d := 1) (m := 51) (f := fun b => b &&& 51) (by decide) (by decide) (by decide) f33b (by decide) 8 (bym t1 8 (nv v))
    rw [Nat.div_one, bym_comp (fun b hb => (t_facts b hb).2.1)] at this
    exact this
  have e2 : nv (shv (bc1 v) 2 &&& 3689348814741910323) = bym (fun b => (t1 b / 4) &&& 51) 8 (nv v) := by
    rw [nv_and, nv_sh (n := 2) (by decide) (by decide), nv_bc1]
    have := sh_msk (d := 4) (m := 51) (f := fun b => (b / 4) &&& 51) (by decide) (by decide) (by decide) f33 (by decide) 8 (bym t1 8 (nv v))
    rw [bym_comp (fun b hb => (t_facts b hb).2.1)] at this
    exact this
  unfold bc2
  rw [nv_add, e1, e2, bym_add]
  have h1 := bym_le (f := t2) (c := 68) (fun b hb => (t_facts b hb).2.2.2.1) 8 (nv v)
  have h2 : msk 68 8 < 18446744073709551616 := by decide
  exact Nat.mod_eq_of_lt (Nat.lt_of_le_of_lt h1 h2)
theorem nv_bc3 (v : Int64) : nv (bc3 v) = bym cb 8 (nv v) := by
  have h1 := bym_le (f := t2) (c := 68) (fun b hb => (t_facts b hb).2.2.2.1) 8 (nv v)
  have h2 : msk 68 8 < 9223372036854775808 := by decide
  unfold bc3
  rw [nv_and, nv_add, nv_sh (n := 4) (by decide) (by decide), nv_bc2, Nat.mod_eq_of_lt (by omega)]
  have := nib (f := t2) (fun b hb => ⟨(t_facts b hb).2.2.1, (t_facts b hb).2.2.2.1⟩) 8 (nv v)
  rw [bym_eq (g := cb) (fun b hb => (t_facts b hb).2.2.2.2.1)] at this
  exact this
/-- all bits of n bytes -/
def cbs : Nat → Nat → Nat
  | 0, _ => 0
  | n + 1, X => cb (X % 256) + cbs n (X / 256)
theorem nv_bc6 (v : Int64) : nv (bc6 v) % 128 = cbs 8 (nv v) := by
  have hb : ∀ X : Nat, cb (X % 256) ≤ 8 := fun X => (t_facts _ (Nat.mod_lt _ (by decide))).2.2.2.2.2
  have h3 := nv_bc3 v
  have a0 := hb (nv v)
  have a1 := hb (nv v / 256)
  have a2 := hb (nv v / 256 / 256)
  have a3 := hb (nv v / 256 / 256 / 256)
  have a4 := hb (nv v / 256 / 256 / 256 / 256)
  have a5 := hb (nv v / 256 / 256 / 256 / 256 / 256)
  have a6 := hb (nv v / 256 / 256 / 256 / 256 / 256 / 256)
  have a7 := hb (nv v / 256 / 256 / 256 / 256 / 256 / 256 / 256)
  have e4 : nv (bc4 v) = (nv (bc3 v) + nv (bc3 v) / 256) % 18446744073709551616 := by
    unfold bc4; rw [nv_add, nv_sh (n := 8) (by decide) (by decide)]
  have e5 : nv (bc5 v) = (nv (bc4 v) + nv (bc4 v) / 65536) % 18446744073709551616 := by
    unfold bc5; rw [nv_add, nv_sh (n := 16) (by decide) (by decide)]
  have e6 : nv (bc6 v) = (nv (bc5 v) + nv (bc5 v) / 4294967296) % 18446744073709551616 := by
    unfold bc6; rw [nv_add, nv_sh (n := 32) (by decide) (by decide)]
  have hs : cbs 8 (nv v) = cb (nv v % 256) + (cb (nv v / 256 % 256) + (cb (nv v / 256 / 256 % 256) + (cb (nv v / 256 / 256 / 256 % 256) + (cb (nv v / 256 / 256 / 256 / 256 % 256) + (cb (nv v / 256 / 256 / 256 / 256 / 256 % 256) + (cb (nv v / 256 / 256 / 256 / 256 / 256 / 256 % 256) + (cb (nv v / 256 / 256 / 256 / 256 / 256 / 256 / 256 % 256) + 0))))))) := rfl
  have hx : nv (bc3 v) = cb (nv v % 256) + 256 * (cb (nv v / 256 % 256) + 256 * (cb (nv v / 256 / 256 % 256) + 256 * (cb (nv v / 256 / 256 / 256 % 256) + 256 * (cb (nv v / 256 / 256 / 256 / 256 % 256) + 256 * (cb (nv v / 256 / 256 / 256 / 256 / 256 % 256) + 256 * (cb (nv v / 256 / 256 / 256 / 256 / 256 / 256 % 256) + 256 * (cb (nv v / 256 / 256 / 256 / 256 / 256 / 256 / 256 % 256) + 256 * 0))))))) := h3
  rw [hs]
  clear hs h3
  generalize cb (nv v % 256) = c0 at *
  generalize cb (nv v / 256 % 256) = c1 at *
  generalize cb (nv v / 256 / 256 % 256) = c2 at *
  generalize cb (nv v / 256 / 256 / 256 % 256) = c3 at *
  generalize cb (nv v / 256 / 256 / 256 / 256 % 256) = c4 at *
  generalize cb (nv v / 256 / 256 / 256 / 256 / 256 % 256) = c5 at *
  generalize cb (nv v / 256 / 256 / 256 / 256 / 256 / 256 % 256) = c6 at *
  generalize cb (nv v / 256 / 256 / 256 / 256 / 256 / 256 / 256 % 256) = c7 at *
  generalize nv (bc3 v) = x3 at *
  generalize nv (bc4 v) = x4 at *
  generalize nv (bc5 v) = x5 at *
  generalize nv (bc6 v) = x6 at *
  have g4 : x4 = (c0 + c1) + 256 * ((c1 + c2) + 256 * ((c2 + c3) + 256 * ((c3 + c4) + 256 * ((c4 + c5) + 256 * ((c5 + c6) + 256 * ((c6 + c7) + 256 * c7)))))) := by omega
  clear e4 hx
  have q4 : x4 / 65536 = (c2 + c3) + 256 * ((c3 + c4) + 256 * ((c4 + c5) + 256 * ((c5 + c6) + 256 * ((c6 + c7) + 256 * c7)))) := by omega
  have g5 : x5 = (c0 + c1 + c2 + c3) + 256 * ((c1 + c2 + c3 + c4) + 256 * ((c2 + c3 + c4 + c5) + 256 * ((c3 + c4 + c5 + c6) + 256 * ((c4 + c5 + c6 + c7) + 256 * ((c5 + c6 + c7) + 256 * ((c6 + c7) + 256 * c7)))))) := by
    rw [q4, g4] at e5
    rw [e5, Nat.mod_eq_of_lt (by omega)]; omega
  clear e5 g4 q4
  have q5 : x5 / 4294967296 = (c4 + c5 + c6 + c7) + 256 * ((c5 + c6 + c7) + 256 * ((c6 + c7) + 256 * c7)) := by omega
  have g6 : x6 = (c0 + c1 + c2 + c3 + c4 + c5 + c6 + c7) + 256 * ((c1 + c2 + c3 + c4 + c5 + c6 + c7) + 256 * ((c2 + c3 + c4 + c5 + c6 + c7) + 256 * ((c3 + c4 + c5 + c6 + c7) + 256 * ((c4 + c5 + c6 + c7) + 256 * ((c5 + c6 + c7) + 256 * ((c6 + c7) + 256 * c7)))))) := by
    rw [q5, g5] at e6
    rw [e6, Nat.mod_eq_of_lt (by omega)]; omega
  clear e6 q5 g5
  omega
def nsum (f : Nat → Nat) : Nat → Nat
  | 0 => 0
  | k + 1 => nsum f k + f k
theorem nsum_8 (f : Nat → Nat) : ∀ m : Nat, nsum f (m + 8) = (f 0 + f 1 + f 2 + f 3 + f 4 + f 5 + f 6 + f 7) + nsum (fun n => f (n + 8)) m := by
  intro m
  induction m with
  | zero => show 0 + f 0 + f 1 + f 2 + f 3 + f 4 + f 5 + f 6 + f 7 = _ + 0; omega
  | succ m ih =>
    show nsum f (m + 8) + f (m + 8) = _ + (nsum (fun n => f (n + 8)) m + f (m + 8))
    rw [ih]; omega
theorem nsum_eq {f g : Nat → Nat} : ∀ m : Nat, (∀ k, k < m → f k = g k) → nsum f m = nsum g m := by
  intro m
  induction m with
  | zero => intro _; rfl
  | succ m ih =>
    intro h
    show nsum f m + f m = nsum g m + g m
    rw [ih (fun k hk => h k (by omega)), h m (by omega)]
theorem cbs_bits : ∀ n X : Nat, cbs n X = nsum (fun k => X / 2 ^ k % 2) (8 * n) := by
  intro n
  induction n with
  | zero => intro X; rfl
  | succ n ih =>
    intro X
    rw [show 8 * (n + 1) = 8 * n + 8 by omega, nsum_8]
    have e : nsum (fun k => X / 2 ^ (k + 8) % 2) (8 * n) = nsum (fun k => X / 256 / 2 ^ k % 2) (8 * n) := nsum_eq _ (fun k _ => by
      rw [Nat.div_div_eq_div_mul, Nat.pow_add, Nat.mul_comm])
    show cb (X % 256) + cbs n (X / 256) = _
    rw [ih, e]
    unfold cb
    have p0 : (2 : Nat) ^ 0 = 1 := rfl
    have p1 : (2 : Nat) ^ 1 = 2 := rfl
    have p2 : (2 : Nat) ^ 2 = 4 := rfl
    have p3 : (2 : Nat) ^ 3 = 8 := rfl
    have p4 : (2 : Nat) ^ 4 = 16 := rfl
    have p5 : (2 : Nat) ^ 5 = 32 := rfl
    have p6 : (2 : Nat) ^ 6 = 64 := rfl
    have p7 : (2 : Nat) ^ 7 = 128 := rfl
    simp only [p0, p1, p2, p3, p4, p5, p6, p7]
    omega
theorem nsum_le1 {f : Nat → Nat} (h : ∀ k, f k ≤ 1) : ∀ m : Nat, nsum f m ≤ m := by
  intro m
  induction m with
  | zero => exact Nat.le_refl _
  | succ m ih => have := h m; show nsum f m + f m ≤ m + 1; omega
theorem isum_tail {F : Int32 → Int32} {N M : Int32} (h0 : 0 ≤ N) (h1 : N ≤ M) (h2 : M ≤ 1000) (h : ∀ n : Int32, N ≤ n → n < M → F n = 0) : isum F M.toNatClampNeg = isum F N.toNatClampNeg := by
  have a : ∀ k : Nat, N.toNatClampNeg ≤ k → k ≤ M.toNatClampNeg → isum F k = isum F N.toNatClampNeg := by
    intro k
    induction k with
    | zero => intro hk _; rw [show N.toNatClampNeg = 0 by omega]
    | succ k ih =>
      intro hk hm
      by_cases e : N.toNatClampNeg = k + 1
      · rw [e]
      · obtain ⟨r1, r2, r3⟩ := of_rng (show k < M.toNatClampNeg by omega)
        have : N ≤ Int32.ofNat k := by
          rw [i_le] at h0 r1 ⊢
          rw [show (0 : Int32).toInt = 0 from rfl] at h0 r1
          rw [i_tn] at r3 hk e
          omega
        show isum F k + F (Int32.ofNat k) = _
        rw [ih (by omega) (by omega), h _ this r2]; exact Int32.add_zero _
  refine a _ ?_ (Nat.le_refl _)
  rw [i_le] at h1
  rw [i_tn, i_tn]; omega
theorem isum_nsum {F : Int32 → Int32} {b : Nat → Nat} {N : Int32} (h0 : N ≤ 1000) (hb : ∀ k, b k ≤ 1) (h : ∀ k, k < N.toNatClampNeg → (F (Int32.ofNat k)).toInt = b k) : (isum F N.toNatClampNeg).toInt = nsum b N.toNatClampNeg := by
  have hN : N.toNatClampNeg ≤ 1000 := by
    rw [i_le, show (1000 : Int32).toInt = 1000 from rfl] at h0
    rw [i_tn]; omega
  have a : ∀ k : Nat, k ≤ N.toNatClampNeg → (isum F k).toInt = nsum b k := by
    intro k
    induction k with
    | zero => intro _; rfl
    | succ k ih =>
      intro hk
      have e1 := ih (by omega)
      have e2 := h k (by omega)
      have e3 := nsum_le1 hb k
      have e4 := hb k
      unfold isum
      show _ = ((nsum b k + b k : Nat) : Int)
      rw [i_add (by omega) (by omega), e1, e2]; omega
  exact a _ (Nat.le_refl _)
theorem sm_at : ∀ k, k < 48 → (Int32.ofNat k).toInt64.toBitVec.smod 64 = BitVec.ofNat 64 k := by decide
/-- a bit of a number without sign -/
theorem bit_at {v : Int64} {k : Nat} (hv : v.toBitVec >>> 48 = 0#64) (hk : k < 48) : ((v >>> (Int32.ofNat k).toInt64) &&& 1).toBitVec.toNat = nv v / 2 ^ k % 2 := by
  have hx : v.toBitVec.toNat < 2 ^ 48 := by
    have := congrArg BitVec.toNat hv
    rw [BitVec.toNat_ushiftRight, Nat.shiftRight_eq_div_pow] at this
    have h2 : v.toBitVec.toNat / 2 ^ 48 = 0 := this
    exact Nat.lt_of_div_eq_zero (by decide) h2
  have hm : v.toBitVec.msb = false := by
    rw [BitVec.msb_eq_false_iff_two_mul_lt]; omega
  rw [Int64.toBitVec_and, Int64.toBitVec_shiftRight, sm_at k hk]
  rw [BitVec.sshiftRight_eq', BitVec.sshiftRight_eq_of_msb_false hm, BitVec.toNat_and, BitVec.toNat_ushiftRight, BitVec.toNat_ofNat, Nat.mod_eq_of_lt (by omega), Nat.shiftRight_eq_div_pow]
  exact Nat.and_one_is_mod _
theorem bc_int (v : Int64) : ((bc6 v).toInt32 &&& 127).toInt = (cbs 8 (nv v) : Nat) := by
  have h1 : ((bc6 v).toInt32 &&& 127).toBitVec.toNat = nv (bc6 v) % 128 := by
    rw [Int32.toBitVec_and, BitVec.toNat_and]
    have e : (bc6 v).toInt32.toBitVec.toNat = nv (bc6 v) % 4294967296 := by
      rw [Int64.toBitVec_toInt32, BitVec.signExtend_eq_setWidth_of_le _ (by decide), BitVec.toNat_setWidth]; rfl
    rw [e]
    have := Nat.and_two_pow_sub_one_eq_mod (nv (bc6 v) % 4294967296) 7
    show nv (bc6 v) % 4294967296 &&& 127 = _
    rw [show (127 : Nat) = 2 ^ 7 - 1 from rfl, this]
    omega
  have h2 : ((bc6 v).toInt32 &&& 127).toInt = ((bc6 v).toInt32 &&& 127).toBitVec.toInt := rfl
  rw [h2, BitVec.toInt_eq_toNat_cond, h1, nv_bc6]
  have := nsum_le1 (f := fun k => nv v / 2 ^ k % 2) (fun k => by have := Nat.mod_lt (nv v / 2 ^ k) (show 0 < 2 by decide); show nv v / 2 ^ k % 2 ≤ 1; omega) 64
  have e := cbs_bits 8 (nv v)
  rw [show 8 * 8 = 64 from rfl] at e
  rw [← e] at this
  rw [if_pos (by omega)]
theorem p_pickCount {tod prods lan pos rom gp plc lcn ocn c : Int32} {pkd : Int64} {w : Nat → Int32} (hD : QD tod prods lan pos rom gp plc lcn ocn w) (hK : QK plc pkd w) : ∃ b, f_X7_pickCount pkd = some b ∧ f_Y8_pickCount c w = some (b, 0) := by
  obtain ⟨d0, d1, d2, d3, d4, d5, d6, d7, d8, d9, d10, d11, d12, d13, d14, d15, d16, d17, d18, d19, d20, d21, d22, d23, d24, d25, d26⟩ := hD
  obtain ⟨k1, k2⟩ := hK
  have hw : w 1 * w 2 = plc := by rw [d3, d6, d15]
  have p0 : 0 ≤ plc := by grind
  have hm : f_Y8_picks w = some (isum (fun n => ix w (159 + n)) plc.toNatClampNeg) := by
    unfold f_Y8_picks
    rw [sum_loop (F := fun n => ix w (159 + n)) (N := plc) (g := fun z : Int32 × Int32 => f_Y8_picks_L4 w z.1 z.2) p0 (by grind) (fun a n n0 n1 => by
      dsimp only
      unfold f_Y8_picks_L4
      rw [n_places, hw]
      simp only [bnd1, Option.bind_some]
      by_cases hn : plc ≤ n
      · rw [if_pos hn, if_pos hn]
      · rw [if_neg hn, if_neg hn, gd_2450 (by grind) (by grind)])]
    rfl
  have h48 : isum (fun n => ix w (159 + n)) (48 : Int32).toNatClampNeg = isum (fun n => ix w (159 + n)) plc.toNatClampNeg := isum_tail p0 d17 (by decide) (fun n n0 n1 => by
    rcases k2 n (by grind) n1 with z | z
    · exact z.1
    · exact absurd z.2.2 (by grind))
  have hx : nv pkd < 2 ^ 48 := by
    have := congrArg BitVec.toNat k1
    rw [BitVec.toNat_ushiftRight, Nat.shiftRight_eq_div_pow] at this
    have h2 : pkd.toBitVec.toNat / 2 ^ 48 = 0 := this
    exact Nat.lt_of_div_eq_zero (by decide) h2
  have hs : (isum (fun n => ix w (159 + n)) (48 : Int32).toNatClampNeg).toInt = nsum (fun k => nv pkd / 2 ^ k % 2) (48 : Int32).toNatClampNeg := isum_nsum (by decide) (fun k => by have := Nat.mod_lt (nv pkd / 2 ^ k) (show 0 < 2 by decide); show nv pkd / 2 ^ k % 2 ≤ 1; omega) (fun k hk => by
    have hk' : k < 48 := hk
    obtain ⟨r1, r2, r3⟩ := of_rng hk
    have b := bit_at k1 hk'
    rw [← b]
    rcases k2 _ r1 r2 with ⟨z1, z2⟩ | ⟨z1, z2, -⟩
    · rw [z1, z2]; rfl
    · rw [z1, z2]; rfl)
  have e8 : cbs 8 (nv pkd) = nsum (fun k => nv pkd / 2 ^ k % 2) 48 := by
    rw [cbs_bits]
    have t : ∀ j : Nat, nsum (fun k => nv pkd / 2 ^ k % 2) (48 + j) = nsum (fun k => nv pkd / 2 ^ k % 2) 48 := by
      intro j
      induction j with
      | zero => rfl
      | succ j ih =>
        show nsum (fun k => nv pkd / 2 ^ k % 2) (48 + j) + nv pkd / 2 ^ (48 + j) % 2 = _
        rw [ih]
        have : nv pkd / 2 ^ (48 + j) = 0 := by
          refine Nat.div_eq_of_lt (Nat.lt_of_lt_of_le hx ?_)
          exact Nat.pow_le_pow_right (by decide) (by omega)
        rw [this, Nat.zero_mod, Nat.add_zero]
    exact t 16
  have key : (bc6 pkd).toInt32 &&& 127 = isum (fun n => ix w (159 + n)) plc.toNatClampNeg := by
    rw [i_eq, bc_int, ← h48, hs, e8]; rfl
  refine ⟨isum (fun n => ix w (159 + n)) plc.toNatClampNeg, ?_, ?_⟩
  · unfold f_X7_pickCount
    rw [bc_eq, key]; rfl
  · unfold f_Y8_pickCount
    rw [hm]; rfl

set_option maxRecDepth 4000 in
theorem cs_30 (PL : (Nat → Int32) → (Nat → Int32) → (Nat → Int32) → (Nat → Int64) → (Nat → Int64) → (Nat → Int32) → Prop) (cp1_acts : Int32) (cp1_nextSlot : Int32) (cp1_now_today : Int32) (cp1_now_products : Int32) (cp1_now_itemCount : Int32) (cp1_now_items : Nat → Int32) (cp1_now_books : Nat → Int32) (cp1_now_terms : Nat → Int32) (cp1_now_shelves_lanes : Int32) (cp1_now_shelves_positions : Int32) (cp1_now_shelves_room : Int32) (cp1_now_shelves_gap : Int32) (cp1_now_shelves_places : Int32) (cp1_now_shelves_picked : Int64) (cp1_now_shelves_lot : Nat → Int32) (cp1_now_shelves_pieces : Nat → Int32) (cp1_now_shelves_mark : Nat → Int32) (cp1_now_shelves_byDistance : Nat → Int32) (cp1_now_lots_count : Int32) (cp1_now_lots_product : Nat → Int32) (cp1_now_lots_last : Nat → Int32) (cp1_now_lots_cost : Nat → Int32) (cp1_now_lots_state : Nat → Int32) (cp1_now_lots_byLast : Nat → Int32) (cp1_now_orders_count : Int32) (cp1_now_orders_gifts : Int32) (cp1_now_orders_customer : Nat → Int32) (cp1_now_orders_product : Nat → Int32) (cp1_now_orders_open : Nat → Int32) (cp1_now_orders_due : Nat → Int32) (cp1_now_orders_life : Nat → Int32) (cp1_now_orders_byDue : Nat → Int32) (cp1_now_orders_had : Nat → Int32) (cp1_now_orders_stamps : Nat → Int32) (cp1_hk : Nat) (cp1_st : Nat → StT) (cp1_plan_terms : Nat → Int32) (cp1_plan_low : Nat → Int32) (cp1_plan_high : Nat → Int32) (cp1_plan_bottom : Nat → Int64) (cp1_plan_cost : Nat → Int64) (cp1_plan_act : Nat → Int32) (cp1_picker_deepest : Int32) (cp1_picker_shallowest : Int32) (cp1_picker_widest : Int32) (cp1_picker_least : Nat → Int32) (cp1_picker_next : Nat → Int32) (cp1_rest : Nat → Int32) (cp1_packed : Nat → Int32) (cp2_raised : Int32) (cp2_undos : Int32) (cp2_eldest : Int32) (cp2_w : Nat → Int32) (cp2_kept : Nat → Int32) (cp2_copy : Nat → Int32) (cp2_near : Nat → Int32) (cp2_isDone : Nat → Int32) (cp2_lane : Nat → Int32) (cp2_position : Nat → Int32) (cp2_least : Nat → Int32) (cp2_boxesOf : Nat → Int32) (cp2_staying : Nat → Int64) (cp2_planned : Nat → Int64) (cp2_scale : Nat → Int64) (cp3 : Nat → Int64) (v1 v2 v3 v4 v5 : Int32) (hR : RC PL (cp1_now_today, cp1_now_products, cp1_now_itemCount, cp1_now_items, cp1_now_books, cp1_now_terms, cp1_now_shelves_lanes, cp1_now_shelves_positions, cp1_now_shelves_room, cp1_now_shelves_gap, cp1_now_shelves_places, cp1_now_shelves_picked, cp1_now_shelves_lot, cp1_now_shelves_pieces, cp1_now_shelves_mark, cp1_now_shelves_byDistance, cp1_now_lots_count, cp1_now_lots_product, cp1_now_lots_last, cp1_now_lots_cost, cp1_now_lots_state, cp1_now_lots_byLast, cp1_now_orders_count, cp1_now_orders_gifts, cp1_now_orders_customer, cp1_now_orders_product, cp1_now_orders_open, cp1_now_orders_due, cp1_now_orders_life, cp1_now_orders_byDue, cp1_now_orders_had, cp1_now_orders_stamps) cp2_w cp2_near cp1_acts cp1_nextSlot cp1_hk cp1_st cp2_undos cp2_eldest cp2_kept cp1_plan_terms cp1_plan_low cp1_plan_high cp1_plan_bottom cp1_plan_cost cp1_plan_act) : ∃ z', f_c30 v1 v2 v3 v4 v5 (cp1_acts, cp1_nextSlot, cp1_now_today, cp1_now_products, cp1_now_itemCount, cp1_now_items, cp1_now_books, cp1_now_terms, cp1_now_shelves_lanes, cp1_now_shelves_positions, cp1_now_shelves_room, cp1_now_shelves_gap, cp1_now_shelves_places, cp1_now_shelves_picked, cp1_now_shelves_lot, cp1_now_shelves_pieces, cp1_now_shelves_mark, cp1_now_shelves_byDistance, cp1_now_lots_count, cp1_now_lots_product, cp1_now_lots_last, cp1_now_lots_cost, cp1_now_lots_state, cp1_now_lots_byLast, cp1_now_orders_count, cp1_now_orders_gifts, cp1_now_orders_customer, cp1_now_orders_product, cp1_now_orders_open, cp1_now_orders_due, cp1_now_orders_life, cp1_now_orders_byDue, cp1_now_orders_had, cp1_now_orders_stamps, cp1_hk, cp1_st, cp1_plan_terms, cp1_plan_low, cp1_plan_high, cp1_plan_bottom, cp1_plan_cost, cp1_plan_act, cp1_picker_deepest, cp1_picker_shallowest, cp1_picker_widest, cp1_picker_least, cp1_picker_next, cp1_rest, cp1_packed, cp2_raised, cp2_undos, cp2_eldest, cp2_w, cp2_kept, cp2_copy, cp2_near, cp2_isDone, cp2_lane, cp2_position, cp2_least, cp2_boxesOf, cp2_staying, cp2_planned, cp2_scale, cp3) = some z' ∧ R PL z' := by
  have hS := hR.1
  rw [RS_mk] at hS
  obtain ⟨a1, a2, a3, a4, a5, a6, a7, a8, a9, a10, a11, a12, a13, a14, a15⟩ := hS
  obtain ⟨b, h1, h2⟩ := p_pickCount (c := cp2_raised) a1 a4
  refine ⟨?w, ?h1, ?h2⟩
  case h1 =>
    rw [fc_30, h1]
    simp only [bnd1, bnd2, Option.bind_some]
    rw [h2]
    simp only [Option.bind_some, ↓reduceIte]
    rfl
  case h2 => rw [R_mk]; exact hR
