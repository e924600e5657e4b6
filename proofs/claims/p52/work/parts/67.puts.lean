/-! ===== sums as sums ===== -/
def isum (F : Int32 → Int32) : Nat → Int32
  | 0 => 0
  | k + 1 => isum F k + F (Int32.ofNat k)
theorem tn_0 : (0 : Int32).toNatClampNeg = 0 := rfl
theorem tn_inc {n : Int32} (h0 : 0 ≤ n) (h1 : n < 90000) : (n + 1).toNatClampNeg = n.toNatClampNeg + 1 := by
  rw [i_le, show (0 : Int32).toInt = 0 from rfl] at h0
  rw [i_lt, show (90000 : Int32).toInt = 90000 from rfl] at h1
  rw [i_tn, i_tn, i_inc (by omega)]; omega
theorem of_tn {n : Int32} (h0 : 0 ≤ n) : Int32.ofNat n.toNatClampNeg = n := by
  rw [i_le, show (0 : Int32).toInt = 0 from rfl] at h0
  have := fb_rng n
  rw [i_eq, i_tn, i_of (by omega)]; omega
theorem of_rng {k : Nat} {N : Int32} (h : k < N.toNatClampNeg) : 0 ≤ Int32.ofNat k ∧ Int32.ofNat k < N ∧ (Int32.ofNat k).toNatClampNeg = k := by
  have := fb_rng N
  rw [i_tn] at h
  have e : (Int32.ofNat k).toInt = k := i_of (by omega)
  refine ⟨by rw [i_le, e, show (0 : Int32).toInt = 0 from rfl]; omega, by rw [i_lt, e]; omega, by rw [i_tn, e]; omega⟩
theorem isum_eq {F G : Int32 → Int32} {N : Int32} (h : ∀ n : Int32, 0 ≤ n → n < N → F n = G n) : isum F N.toNatClampNeg = isum G N.toNatClampNeg := by
  have a : ∀ k : Nat, k ≤ N.toNatClampNeg → isum F k = isum G k := by
    intro k
    induction k with
    | zero => intro _; rfl
    | succ k ih =>
      intro hk
      obtain ⟨h1, h2, -⟩ := of_rng (show k < N.toNatClampNeg by omega)
      unfold isum
      rw [ih (by omega), h _ h1 h2]
  exact a _ (Nat.le_refl _)
theorem isum_add {F G : Int32 → Int32} : ∀ k : Nat, isum (fun n => F n + G n) k = isum F k + isum G k := by
  intro k
  induction k with
  | zero => rfl
  | succ k ih => unfold isum; rw [ih]; grind
theorem isum_mul {F : Int32 → Int32} {c : Int32} : ∀ k : Nat, isum (fun n => c * F n) k = c * isum F k := by
  intro k
  induction k with
  | zero => unfold isum; rw [Int32.mul_zero]
  | succ k ih => unfold isum; rw [ih, Int32.mul_add]
theorem isum_rng {F : Int32 → Int32} {N b : Int32} (hb0 : 0 ≤ b) (hN : N ≤ 1000) (hb : b ≤ 10000) (h : ∀ n : Int32, 0 ≤ n → n < N → 0 ≤ F n ∧ F n ≤ b) : 0 ≤ (isum F N.toNatClampNeg).toInt ∧ (isum F N.toNatClampNeg).toInt ≤ b.toInt * N.toNatClampNeg := by
  have hN' : N.toNatClampNeg ≤ 1000 := by
    rw [i_le, show (1000 : Int32).toInt = 1000 from rfl] at hN
    rw [i_tn]; omega
  have hb' : b.toInt ≤ 10000 := by rw [i_le] at hb; exact hb
  have hb1 : 0 ≤ b.toInt := by rw [i_le] at hb0; exact hb0
  have a : ∀ k : Nat, k ≤ N.toNatClampNeg → 0 ≤ (isum F k).toInt ∧ (isum F k).toInt ≤ b.toInt * k := by
    intro k
    induction k with
    | zero => intro _; unfold isum; rw [show (0 : Int32).toInt = 0 from rfl]; omega
    | succ k ih =>
      intro hk
      obtain ⟨h1, h2, -⟩ := of_rng (show k < N.toNatClampNeg by omega)
      obtain ⟨e1, e2⟩ := h _ h1 h2
      rw [i_le] at e1 e2
      rw [show (0 : Int32).toInt = 0 from rfl] at e1
      obtain ⟨g1, g2⟩ := ih (by omega)
      have m : b.toInt * (k : Int) ≤ 10000 * 1000 := Int.mul_le_mul hb' (by omega) (by omega) (by omega)
      have m2 : b.toInt * ((k + 1 : Nat) : Int) = b.toInt * k + b.toInt := by rw [Int.natCast_add, Int.mul_add]; simp
      unfold isum
      rw [i_add (by omega) (by omega), m2]
      omega
  exact a _ (Nat.le_refl _)
theorem sum_loop {g : Int32 × Int32 → Option ((Int32 × Int32) ⊕ Int32)} {F : Int32 → Int32} {N : Int32} (h0 : 0 ≤ N) (h1 : N < 90000) (hg : ∀ a n, 0 ≤ n → n ≤ N → g (a, n) = if N ≤ n then some (.inr a) else some (.inl (a + F n, n + 1))) : loop g fu (0, 0) = some (isum F N.toNatClampNeg) := by
  obtain ⟨r, w1, w2⟩ := lp_one (f := g) (fun s => 0 ≤ s.2 ∧ s.2 ≤ N ∧ s.1 = isum F s.2.toNatClampNeg) (fun a => a = isum F N.toNatClampNeg) (fun s => msr s.2 N) (by
    rintro ⟨a, n⟩ ⟨g1, g2, g3⟩
    dsimp only at g1 g2 g3 ⊢
    rw [hg a n g1 g2]
    by_cases hn : N ≤ n
    · have : n = N := by grind
      subst this
      exact Or.inr ⟨a, by rw [if_pos hn], g3⟩
    · left
      refine ⟨(a + F n, n + 1), by rw [if_neg hn], ⟨by dsimp only; grind, by dsimp only; grind, ?_⟩, msr_lt (by grind)⟩
      dsimp only
      rw [tn_inc g1 (by grind)]
      unfold isum
      rw [of_tn g1, g3]) fu (0, 0) ⟨by decide, h0, rfl⟩ (msr_fu (by decide) h1)
  rw [w1, w2]
theorem hand_sum {plc : Int32} {f : Nat → Int32} (h0 : 0 ≤ plc) (h1 : plc ≤ 48) : f_X5_piecesOnHand plc f = some (isum (ix f) plc.toNatClampNeg) := by
  unfold f_X5_piecesOnHand
  rw [sum_loop (F := ix f) (g := fun z : Int32 × Int32 => f_X5_piecesOnHand_L4 plc f z.1 z.2) h0 (by grind) (fun a n n0 n1 => by
    dsimp only
    unfold f_X5_piecesOnHand_L4
    by_cases hn : plc ≤ n
    · rw [if_pos hn, if_pos hn]
    · rw [if_neg hn, if_neg hn, gd_48 n0 (by grind)])]
  rfl
theorem free_sum {plc : Int32} {ppc : Nat → Int32} (h0 : 0 ≤ plc) (h1 : plc ≤ 48) : f_X5_freePlaces plc ppc = some (isum (fun n => if ix ppc n = 0 then 1 else 0) plc.toNatClampNeg) := by
  unfold f_X5_freePlaces
  rw [sum_loop (F := fun n => if ix ppc n = 0 then 1 else 0) (g := fun z : Int32 × Int32 => f_X5_freePlaces_L4 plc ppc z.1 z.2) h0 (by grind) (fun a n n0 n1 => by
    dsimp only
    unfold f_X5_freePlaces_L4 f_X5_freePlaces_L4_J23
    by_cases hn : plc ≤ n
    · rw [if_pos hn, if_pos hn]
    · rw [if_neg hn, if_neg hn, n_isFree5 n plc ppc h1 n0 (by grind)]
      simp only [bnd1, Option.bind_some]
      by_cases hz : ix ppc n = 0
      · simp only [if_pos hz, if_neg one_ne]
      · simp only [if_neg hz, ↓reduceIte, Int32.add_zero])]
  rfl
theorem room_sum {plc rom lcn : Int32} {plot ppc pmk w : Nat → Int32} (h0 : 0 ≤ plc) (h1 : plc ≤ 48) (hw : w 1 * w 2 = plc) (hr : w 3 = rom) (hP : QP plc rom lcn plot ppc pmk w) : f_Y8_freeRoom w = some (rom * isum (fun n => if ix ppc n = 0 then 1 else 0) plc.toNatClampNeg) := by
  unfold f_Y8_freeRoom
  rw [sum_loop (F := fun n => rom * if ix ppc n = 0 then 1 else 0) (N := plc) (g := fun z : Int32 × Int32 => f_Y8_freeRoom_L4 w z.1 z.2) h0 (by grind) (fun a n n0 n1 => by
    dsimp only
    unfold f_Y8_freeRoom_L4 f_Y8_freeRoom_L4_J31
    rw [n_places, hw]
    simp only [bnd1, Option.bind_some]
    by_cases hn : plc ≤ n
    · rw [if_pos hn, if_pos hn]
    · rw [if_neg hn, if_neg hn, n_isFree n w n0 (by grind), (hP n n0 (by grind)).2.1]
      simp only [Option.bind_some]
      rw [gd_2450 (by decide) (by decide), show w (3 : Int32).toNatClampNeg = rom from hr]
      by_cases hz : ix ppc n = 0
      · simp only [if_pos hz, if_neg one_ne, Int32.mul_one]
      · simp only [if_neg hz, ↓reduceIte, Int32.mul_zero]), isum_mul]
  rfl
/-- whether so many pieces find room -/
theorem n_room {q rom fr : Int32} (h1 : 1 ≤ q) (h2 : q ≤ 100) (r1 : 1 ≤ rom) (r2 : rom ≤ 20) (f1 : 0 ≤ fr.toInt) (f2 : fr.toInt ≤ 48) : ∃ k, f_X5_placesFor q rom = some k ∧ (fr < k ↔ rom * fr < q) := by
  have hq : ¬ q ≤ 0 := by grind
  have hz : rom ≠ 0 := by grind
  refine ⟨(q + rom - 1) / rom, ?_, ?_⟩
  · unfold f_X5_placesFor
    rw [if_neg hq, if_pos r1, gz_ok hz]
  · rw [i_le] at h1 h2 r1 r2
    rw [show (1 : Int32).toInt = 1 from rfl] at h1 r1
    rw [show (100 : Int32).toInt = 100 from rfl] at h2
    rw [show (20 : Int32).toInt = 20 from rfl] at r2
    have e1 : (q + rom - 1).toInt = q.toInt + rom.toInt - 1 := by
      rw [i_sub, i_add (by omega) (by omega)]
      · rfl
      · rw [i_add (by omega) (by omega)]; show _ ≤ _ - (1 : Int); omega
      · rw [i_add (by omega) (by omega)]; show _ - (1 : Int) ≤ _; omega
    have m1 : 0 ≤ rom.toInt * fr.toInt := Int.mul_nonneg (by omega) f1
    have m2 : rom.toInt * fr.toInt ≤ 20 * 48 := Int.mul_le_mul r2 f2 f1 (by omega)
    have e2 : (rom * fr).toInt = rom.toInt * fr.toInt := i_mul (by omega) (by omega)
    have e3 : ((q + rom - 1) / rom).toInt = (q.toInt + rom.toInt - 1) / rom.toInt := by
      rw [Int32.toInt_div, e1, Int.tdiv_eq_ediv_of_nonneg (by omega)]
      have b1 : 0 ≤ (q.toInt + rom.toInt - 1) / rom.toInt := Int.ediv_nonneg (by omega) (by omega)
      have b2 : (q.toInt + rom.toInt - 1) / rom.toInt ≤ q.toInt + rom.toInt - 1 := Int.ediv_le_self _ (by omega)
      exact Int.bmod_eq_of_le (by omega) (by omega)
    rw [i_lt, i_lt, e2, e3]
    have key : fr.toInt + 1 ≤ (q.toInt + rom.toInt - 1) / rom.toInt ↔ (fr.toInt + 1) * rom.toInt ≤ q.toInt + rom.toInt - 1 := Int.le_ediv_iff_mul_le (by omega)
    have e4 : (fr.toInt + 1) * rom.toInt = rom.toInt * fr.toInt + rom.toInt := by rw [Int.add_mul, Int.one_mul, Int.mul_comm]
    rw [e4] at key
    constructor
    · intro h; have := key.mp (by omega); omega
    · intro h; have := key.mpr (by omega); omega
theorem isum_upd {F G : Int32 → Int32} {p N : Int32} (h0 : 0 ≤ p) (h1 : p < N) (h : ∀ n : Int32, 0 ≤ n → n < N → n ≠ p → G n = F n) : isum G N.toNatClampNeg = isum F N.toNatClampNeg + (G p - F p) := by
  have hp : p.toNatClampNeg < N.toNatClampNeg := tn_lt h0 h1
  have a : ∀ k : Nat, k ≤ N.toNatClampNeg → isum G k = isum F k + if p.toNatClampNeg < k then G p - F p else 0 := by
    intro k
    induction k with
    | zero => intro _; rw [if_neg (by omega)]; rfl
    | succ k ih =>
      intro hk
      obtain ⟨h2, h3, h4⟩ := of_rng (show k < N.toNatClampNeg by omega)
      unfold isum
      rw [ih (by omega)]
      by_cases e : Int32.ofNat k = p
      · have e2 : p.toNatClampNeg = k := by rw [← e]; exact h4
        rw [if_neg (by omega), if_pos (by omega), e]; grind
      · have e2 : p.toNatClampNeg ≠ k := fun z => e (by rw [← z]; exact of_tn h0)
        rw [h _ h2 h3 e]
        by_cases e3 : p.toNatClampNeg < k
        · rw [if_pos e3, if_pos (by omega)]; grind
        · rw [if_neg e3, if_neg (by omega)]; grind
  rw [a _ (Nat.le_refl _), if_pos hp]
/-- how many places are free -/
def frs (plc : Int32) (ppc : Nat → Int32) : Int32 := isum (fun n => if ix ppc n = 0 then 1 else 0) plc.toNatClampNeg
theorem frs_upd {plc p x : Int32} {ppc : Nat → Int32} (h0 : 0 ≤ p) (h1 : p < plc) (hp : ix ppc p = 0) (hx : x ≠ 0) : frs plc (upd ppc p.toNatClampNeg x) = frs plc ppc - 1 := by
  unfold frs
  rw [isum_upd (F := fun n => if ix ppc n = 0 then 1 else 0) h0 h1]
  · have e : ix (upd ppc p.toNatClampNeg x) p = x := upd_same
    rw [e, if_neg hx, if_pos hp]; grind
  · intro n n0 n1 n2
    have e : ix (upd ppc p.toNatClampNeg x) n = ix ppc n := upd_ne h0 n0 n2
    rw [e]
theorem frs_rng {plc : Int32} {ppc : Nat → Int32} (h0 : 0 ≤ plc) (h1 : plc ≤ 48) : 0 ≤ frs plc ppc ∧ frs plc ppc ≤ 48 := by
  obtain ⟨a, b⟩ := isum_rng (F := fun n => if ix ppc n = 0 then 1 else 0) (N := plc) (b := 1) (by decide) (by grind) (by decide) (fun n n0 n1 => by
    by_cases h : ix ppc n = 0
    · rw [if_pos h]; exact ⟨by decide, by decide⟩
    · rw [if_neg h]; exact ⟨by decide, by decide⟩)
  rw [i_le] at h1
  rw [show (48 : Int32).toInt = 48 from rfl] at h1
  rw [show (1 : Int32).toInt = 1 from rfl] at b
  have e : plc.toNatClampNeg = plc.toInt.toNat := rfl
  unfold frs
  rw [i_le, i_le, show (0 : Int32).toInt = 0 from rfl, show (48 : Int32).toInt = 48 from rfl]
  omega
theorem frs_0 {plc : Int32} {ppc : Nat → Int32} (h : ∀ n : Int32, 0 ≤ n → n < plc → ix ppc n ≠ 0) : frs plc ppc = 0 := by
  unfold frs
  have : isum (fun n => if ix ppc n = 0 then (1 : Int32) else 0) plc.toNatClampNeg = isum (fun n => (0 : Int32) * 0) plc.toNatClampNeg := isum_eq (fun n n0 n1 => by rw [if_neg (h n n0 n1)]; rfl)
  rw [this, isum_mul, Int32.zero_mul]
theorem ceil_eq {q rom u X : Int32} (h2 : q ≤ 100) (r1 : 1 ≤ rom) (r2 : rom ≤ 20) (u0 : 0 ≤ u) (u1 : u ≤ 48) (hX : rom * u = X) (x1 : X < q) (x2 : q ≤ X + rom) : (q + rom - 1) / rom = u + 1 := by
  rw [i_le] at h2 r1 r2 u0 u1
  rw [show (100 : Int32).toInt = 100 from rfl] at h2
  rw [show (20 : Int32).toInt = 20 from rfl] at r2
  rw [show (1 : Int32).toInt = 1 from rfl] at r1
  rw [show (0 : Int32).toInt = 0 from rfl] at u0
  rw [show (48 : Int32).toInt = 48 from rfl] at u1
  have m1 : 0 ≤ rom.toInt * u.toInt := Int.mul_nonneg (by omega) u0
  have m2 : rom.toInt * u.toInt ≤ 20 * 48 := Int.mul_le_mul r2 u1 u0 (by omega)
  have e2 : (rom * u).toInt = rom.toInt * u.toInt := i_mul (by omega) (by omega)
  rw [hX] at e2
  rw [i_lt] at x1
  rw [i_le, i_add (by omega) (by omega)] at x2
  have e1 : (q + rom - 1).toInt = q.toInt + rom.toInt - 1 := by
    rw [i_sub, i_add (by omega) (by omega)]
    · rfl
    · rw [i_add (by omega) (by omega)]; show _ ≤ _ - (1 : Int); omega
    · rw [i_add (by omega) (by omega)]; show _ - (1 : Int) ≤ _; omega
  rw [i_eq, Int32.toInt_div, e1, Int.tdiv_eq_ediv_of_nonneg (by omega), i_inc (by omega)]
  have b1 : (q.toInt + rom.toInt - 1) / rom.toInt = u.toInt + 1 := by
    rw [Int.ediv_eq_iff_of_pos (by omega), Int.add_mul, Int.one_mul, Int.mul_comm u.toInt]
    omega
  rw [b1]
  exact Int.bmod_eq_of_le (by omega) (by omega)
/-- nothing is left to put: the model's walk goes on idle -/
theorem puts_idle {plc l x k r : Int32} {w near : Nat → Int32} (h0 : 0 ≤ plc) (h1 : plc ≤ 48) (hw : w 1 * w 2 = plc) (hn : ∀ n : Int32, 0 ≤ n → n < plc → 0 ≤ ix near n ∧ ix near n < 48) (hr : r ≤ 0) :
    ∀ (m : Nat) (n : Int32), 0 ≤ n → n ≤ plc → msr n plc < m → loop (fun z : Int32 × Int32 × (Nat → Int32) => f_Y8_puts_L6 l x k near z.1 z.2.1 z.2.2) m (r, n, w) = some (r, w) := by
  intro m n n0 n1 hm
  obtain ⟨e, e1, e2⟩ := lp_one (f := fun z : Int32 × Int32 × (Nat → Int32) => f_Y8_puts_L6 l x k near z.1 z.2.1 z.2.2) (fun s => s.1 = r ∧ s.2.2 = w ∧ 0 ≤ s.2.1 ∧ s.2.1 ≤ plc) (fun e => e = (r, w)) (fun s => msr s.2.1 plc) (by
    rintro ⟨r', n, w'⟩ ⟨g1, g2, g3, g4⟩
    dsimp only at g1 g2 g3 g4 ⊢
    subst g1 g2
    unfold f_Y8_puts_L6
    rw [n_places, hw]
    simp only [bnd1, Option.bind_some]
    by_cases hh : plc ≤ n
    · exact Or.inr ⟨_, by rw [if_pos hh], rfl⟩
    · left
      have hn' : n < plc := by grind
      obtain ⟨b1, b2⟩ := hn n g3 hn'
      have b3 : near n.toNatClampNeg = ix near n := rfl
      have key : ∀ t : Int32, f_Y8_puts_L6_J56 l x k r' n (ix near n) t w' near = some (.inl (r', n + 1, w')) := by
        intro t
        unfold f_Y8_puts_L6_J56 f_Y8_puts_L6_J153
        rw [gd_2450 (by decide) (by decide), gd_2450 (by grind) (by grind), if_pos hr]
        grind
      refine ⟨(r', n + 1, w'), ?_, ⟨rfl, rfl, by dsimp only; grind, by dsimp only; grind⟩, msr_lt hn'⟩
      rw [if_neg hh, gd_48 g3 (by grind), b3]
      by_cases hx : x = 0
      · rw [if_pos hx, gd_2450 (by grind) (by grind), key, key]; grind
      · rw [if_neg hx, n_isFree _ _ b1 b2]
        simp only [Option.bind_some]
        rw [key]) m (r, n, w) ⟨rfl, rfl, n0, n1⟩ hm
  rw [e1, e2]
/-- pieces are put into free places, both sides -/
theorem s_puts {q l k plc rom lcn : Int32} {plot ppc pmk pbd near w : Nat → Int32} (h1 : 1 ≤ plc) (h2 : plc ≤ 48) (r1 : 1 ≤ rom) (r2 : rom ≤ 20) (hw : w 1 * w 2 = plc) (hr : w 3 = rom) (hP : QP plc rom lcn plot ppc pmk w) (hR : QR plc pbd near) (l0 : 0 ≤ l) (l1 : l < lcn) (q0 : 0 ≤ q) (q1 : q ≤ 100) :
    ∃ r l' p' k' w' u, f_X5_putAway l q k rom plc plot ppc pmk pbd = some (l', p', k') ∧ f_Y8_puts l q 1 k w near = some (r, w') ∧ QP plc rom lcn l' p' k' w' ∧ AG 0 15 w w' ∧ AG 159 2450 w w' ∧ isum (ix p') plc.toNatClampNeg = isum (ix ppc) plc.toNatClampNeg + (q - r) ∧ 0 ≤ r ∧ r ≤ q ∧
      (∀ p : Int32, 0 ≤ p → p < plc → (ix l' p = ix plot p ∧ ix p' p = ix ppc p) ∨ (ix ppc p = 0 ∧ ix l' p = l ∧ 1 ≤ ix p' p)) ∧
      frs plc p' = frs plc ppc - u ∧ 0 ≤ u ∧ u ≤ frs plc ppc ∧ ((r = 0 ∧ (q = 0 ∧ u = 0 ∨ 1 ≤ q ∧ (q + rom - 1) / rom = u)) ∨ (0 < r ∧ u = frs plc ppc ∧ rom * u < q)) := by
  have hnear : ∀ n : Int32, 0 ≤ n → n < plc → 0 ≤ ix near n ∧ ix near n < 48 := fun n n0 n1 => by
    obtain ⟨a, b, c⟩ := hR.1 n n0 n1
    rw [a]; exact ⟨b, by grind⟩
  have fr := frs_rng (ppc := ppc) (show 0 ≤ plc by grind) h2
  obtain ⟨d, e, w1, w2, w3⟩ := lp_tail (f := fun z : Int32 × Int32 × (Nat → Int32) => f_Y8_puts_L6 l 1 k near z.1 z.2.1 z.2.2) (g := fun z : Int32 × Int32 × (Nat → Int32) × (Nat → Int32) × (Nat → Int32) => f_X5_putAway_L6 l k rom plc pbd z.1 z.2.1 z.2.2.1 z.2.2.2.1 z.2.2.2.2)
    (fun s t => s.1 = t.1 ∧ s.2.1 = t.2.1 ∧ 0 ≤ t.2.1 ∧ t.2.1 ≤ plc ∧ 0 ≤ t.1 ∧ t.1 ≤ q ∧ QP plc rom lcn t.2.2.1 t.2.2.2.1 t.2.2.2.2 s.2.2 ∧ AG 0 15 w s.2.2 ∧ AG 159 2450 w s.2.2 ∧ isum (ix t.2.2.2.1) plc.toNatClampNeg = isum (ix ppc) plc.toNatClampNeg + (q - t.1) ∧
      (∀ p : Int32, 0 ≤ p → p < plc → (ix t.2.2.1 p = ix plot p ∧ ix t.2.2.2.1 p = ix ppc p) ∨ (ix ppc p = 0 ∧ ix t.2.2.1 p = l ∧ 1 ≤ ix t.2.2.2.1 p)) ∧
      (0 < t.1 → ∀ m : Int32, 0 ≤ m → m < t.2.1 → ix t.2.2.2.1 (ix pbd m) ≠ 0) ∧
      ∃ u : Int32, frs plc t.2.2.2.1 = frs plc ppc - u ∧ 0 ≤ u ∧ u ≤ frs plc ppc ∧ ((0 < t.1 ∧ rom * u = q - t.1) ∨ (t.1 = 0 ∧ (q = 0 ∧ u = 0 ∨ 1 ≤ q ∧ rom * (u - 1) < q ∧ q ≤ rom * (u - 1) + rom ∧ 1 ≤ u))))
    (fun d e => 0 ≤ d.1 ∧ d.1 ≤ q ∧ QP plc rom lcn e.1 e.2.1 e.2.2 d.2 ∧ AG 0 15 w d.2 ∧ AG 159 2450 w d.2 ∧ isum (ix e.2.1) plc.toNatClampNeg = isum (ix ppc) plc.toNatClampNeg + (q - d.1) ∧
      (∀ p : Int32, 0 ≤ p → p < plc → (ix e.1 p = ix plot p ∧ ix e.2.1 p = ix ppc p) ∨ (ix ppc p = 0 ∧ ix e.1 p = l ∧ 1 ≤ ix e.2.1 p)) ∧
      ∃ u : Int32, frs plc e.2.1 = frs plc ppc - u ∧ 0 ≤ u ∧ u ≤ frs plc ppc ∧ ((0 < d.1 ∧ rom * u = q - d.1 ∧ u = frs plc ppc) ∨ (d.1 = 0 ∧ (q = 0 ∧ u = 0 ∨ 1 ≤ q ∧ rom * (u - 1) < q ∧ q ≤ rom * (u - 1) + rom ∧ 1 ≤ u)))) (fun z => msr z.2.1 plc) (by
    rintro ⟨r', n', w'⟩ ⟨r, n, a, b, c⟩ ⟨x1, x2, g1, g2, g3, g4, g5, g6, g7, g8, g9, g10, u, g11, g12, g13, g14⟩
    dsimp only at x1 x2 g1 g2 g3 g4 g5 g6 g7 g8 g9 g10 g11 g12 g13 g14 ⊢
    subst x1 x2
    have hw' : w' 1 * w' 2 = plc := by
      have e1 : w' 1 = w 1 := g6 1 (by decide) (by decide)
      have e2 : w' 2 = w 2 := g6 2 (by decide) (by decide)
      rw [e1, e2]; exact hw
    have hr' : w' (3 : Int32).toNatClampNeg = rom := (g6 3 (by decide) (by decide)).trans hr
    by_cases hn : plc ≤ n'
    · refine Or.inr ⟨(r', w'), (a, b, c), ?_, fun m hm => ?_, g3, g4, g5, g6, g7, g8, g9, u, g11, g12, g13, ?_⟩
      · unfold f_X5_putAway_L6; rw [if_pos hn]
      · obtain ⟨m', rfl⟩ : ∃ m', m = m' + 1 := ⟨m - 1, by omega⟩
        have : f_Y8_puts_L6 l 1 k near r' n' w' = some (.inr (r', w')) := by
          unfold f_Y8_puts_L6
          rw [n_places, hw']
          simp only [bnd1, Option.bind_some]
          rw [if_pos hn]
        simp only [loop, this]
      · rcases g14 with ⟨y1, y2⟩ | y
        · refine Or.inl ⟨y1, y2, ?_⟩
          have hz : frs plc b = 0 := frs_0 (fun p p0 p1 => by
            obtain ⟨m, m0, m1, m2⟩ := hR.2 p p0 p1
            rw [← m2]; exact g10 y1 m m0 (by grind))
          rw [hz] at g11; grind
        · exact Or.inr y
    · have hn' : n' < plc := by grind
      by_cases hz : r' ≤ 0
      · have hz0 : r' = 0 := by grind
        refine Or.inr ⟨(r', w'), (a, b, c), ?_, fun m hm => ?_, g3, g4, g5, g6, g7, g8, g9, u, g11, g12, g13, ?_⟩
        · unfold f_X5_putAway_L6; rw [if_neg hn, if_pos hz]
        · exact puts_idle (by grind) h2 hw' hnear hz m n' g1 g2 hm
        · rcases g14 with ⟨y1, y2⟩ | y
          · exact absurd y1 (by grind)
          · exact Or.inr y
      · left
        have hz' : 0 < r' := by grind
        obtain ⟨b1, b2, b3⟩ := hR.1 n' g1 hn'
        have b4 : near n'.toNatClampNeg = ix pbd n' := b1
        have b5 : pbd n'.toNatClampNeg = ix pbd n' := rfl
        obtain ⟨c1, c2, c3, c4, c5, c6⟩ := g5 (ix pbd n') b2 b3
        have c2' : w' (63 + ix pbd n').toNatClampNeg = ix b (ix pbd n') := c2
        have hu : rom * u = q - r' := by
          rcases g14 with ⟨y1, y2⟩ | y
          · exact y2
          · exact absurd y.1 (by grind)
        by_cases hf : ix b (ix pbd n') = 0
        · have kr : (if rom < r' then rom else r') = (if rom ≤ r' then rom else r') := by
            by_cases e1 : rom < r'
            · rw [if_pos e1, if_pos (by grind)]
            · by_cases e2 : rom ≤ r'
              · rw [if_neg e1, if_pos e2]; grind
              · rw [if_neg e1, if_neg e2]
          have hkk : ∀ t : Int32, (if rom ≤ r' then rom else r') = t → 1 ≤ t ∧ t ≤ rom ∧ t ≤ r' ∧ (t < rom → t = r') := by
            intro t ht
            by_cases e2 : rom ≤ r'
            · rw [if_pos e2] at ht; subst ht; exact ⟨r1, by grind, e2, fun z => absurd z (by grind)⟩
            · rw [if_neg e2] at ht; subst ht; exact ⟨by grind, by grind, by grind, fun _ => rfl⟩
          generalize ht : (if rom ≤ r' then rom else r') = t at kr
          obtain ⟨t1, t2, t3, t4⟩ := hkk t ht
          have tz : ¬ t = 0 := by grind
          have w'' : ∃ w2, w2 = upd (upd (upd w' (15 + ix pbd n').toNatClampNeg l) (63 + ix pbd n').toNatClampNeg t) (111 + ix pbd n').toNatClampNeg k := ⟨_, rfl⟩
          obtain ⟨w2, hw2⟩ := w''
          have frp := frs_upd (x := t) b2 b3 hf tz
          refine ⟨(r' - t, n' + 1, w2), (r' - t, n' + 1, upd a (ix pbd n').toNatClampNeg l, upd b (ix pbd n').toNatClampNeg t, upd c (ix pbd n').toNatClampNeg k), ?_, ?_, ⟨rfl, rfl, by dsimp only; grind, by dsimp only; grind, by dsimp only; grind, by dsimp only; grind, ?_, ?_, ?_, ?_, ?_, ?_, u + 1, ?_, by grind, ?_, ?_⟩, msr_lt hn'⟩
          · have e3 : ∀ x : Int32, upd w' (15 + ix pbd n').toNatClampNeg x (63 + ix pbd n').toNatClampNeg = 0 := by
              intro x
              rw [upd_ne (by grind) (by grind) (by grind), c2', hf]
            unfold f_Y8_puts_L6
            rw [n_places, hw']
            simp only [bnd1, Option.bind_some]
            rw [if_neg hn, gd_48 g1 (by grind), if_neg one_ne, b4, n_isFree _ _ b2 (by grind), c2, if_pos hf]
            simp only [Option.bind_some]
            unfold f_Y8_puts_L6_J56 f_Y8_puts_L6_J106 f_Y8_puts_L6_J153
            rw [gd_2450 (by decide) (by decide), gd_2450 (by grind) (by grind), if_neg one_ne, hr', c2', hf, Int32.sub_zero, if_neg (by grind), if_neg hz, gd_2450 (by grind) (by grind), gd_2450 (by grind) (by grind), gd_2450 (by grind) (by grind), gd_2450 (by grind) (by grind), gd_2450 (by grind) (by grind), gd_2450 (by grind) (by grind), gd_2450 (by grind) (by grind), gd_2450 (by grind) (by grind), e3, Int32.zero_add, Int32.zero_add, hw2]
            by_cases e2 : rom ≤ r'
            · rw [if_pos e2]; rw [if_pos e2] at ht; rw [ht]
            · rw [if_neg e2]; rw [if_neg e2] at ht; rw [ht]
          · unfold f_X5_putAway_L6 f_X5_putAway_L6_J66
            rw [if_neg hn, if_neg hz, gd_48 g1 (by grind), b5, n_isFree5 _ _ _ h2 b2 b3, if_pos hf]
            simp only [bnd1, Option.bind_some]
            rw [if_neg one_ne, n_set h2 b2 b3, kr, if_neg tz]
            rfl
          · dsimp only
            refine QP_set h2 g5 b2 b3 (by grind) t2 (Or.inr ⟨t1, l0, l1⟩) ?_ ?_ ?_ ?_
            · rw [hw2]; unfold ix; rw [upd_ne (by grind) (by grind) (by grind), upd_ne (by grind) (by grind) (by grind), upd_same]
            · rw [hw2]; unfold ix; rw [upd_ne (by grind) (by grind) (by grind), upd_same]
            · rw [hw2]; unfold ix; rw [upd_same]
            · intro m m0 m1 m2
              refine ⟨?_, ?_, ?_⟩ <;> (rw [hw2]; unfold ix; rw [upd_ne (by grind) (by grind) (by grind), upd_ne (by grind) (by grind) (by grind), upd_ne (by grind) (by grind) (by grind)])
          · rw [hw2]; exact ((g6.up (by decide) (by grind) (by grind)).up (by decide) (by grind) (by grind)).up (by decide) (by grind) (by grind)
          · rw [hw2]; exact ((g7.up (by decide) (by grind) (by grind)).up (by decide) (by grind) (by grind)).up (by decide) (by grind) (by grind)
          · dsimp only
            rw [isum_upd (F := ix b) b2 b3 (fun m m0 m1 m2 => upd_ne b2 m0 m2), g8, hf]
            show _ + (upd b (ix pbd n').toNatClampNeg t (ix pbd n').toNatClampNeg - 0) = _
            rw [upd_same]; grind
          · intro p p0 p1
            dsimp only
            have u1 : ix (upd a (ix pbd n').toNatClampNeg l) p = if p = ix pbd n' then l else ix a p := upd_at b2 p0
            have u2 : ix (upd b (ix pbd n').toNatClampNeg t) p = if p = ix pbd n' then t else ix b p := upd_at b2 p0
            rw [u1, u2]
            by_cases hp : p = ix pbd n'
            · rw [if_pos hp, if_pos hp]
              refine Or.inr ⟨?_, rfl, t1⟩
              rcases g9 p p0 p1 with ⟨y1, y2⟩ | ⟨y1, y2⟩
              · rw [← y2, hp]; exact hf
              · exact y1
            · rw [if_neg hp, if_neg hp]; exact g9 p p0 p1
          · intro z m m0 m1
            dsimp only at z m1 ⊢
            obtain ⟨v1, v2, v3⟩ := hR.1 m m0 (by grind)
            have u2 : ix (upd b (ix pbd n').toNatClampNeg t) (ix pbd m) = if ix pbd m = ix pbd n' then t else ix b (ix pbd m) := upd_at b2 v2
            rw [u2]
            by_cases hp : ix pbd m = ix pbd n'
            · rw [if_pos hp]; exact tz
            · rw [if_neg hp]
              refine g10 hz' m m0 ?_
              have : m ≠ n' := fun z => hp (by rw [z])
              grind
          · dsimp only; rw [frp, g11]; grind
          · have : frs plc b ≠ 0 := by
              intro hh
              have z1 := frs_rng (ppc := upd b (ix pbd n').toNatClampNeg t) (show 0 ≤ plc by grind) h2
              rw [frp, hh] at z1
              grind
            grind
          · have hX : rom * (u + 1) = rom * u + rom := by rw [Int32.mul_add, Int32.mul_one]
            by_cases e1 : 0 < r' - t
            · left
              refine ⟨e1, ?_⟩
              rw [hX, hu]
              have : t = rom := by grind
              grind
            · right
              have e2 : r' - t = 0 := by grind
              refine ⟨e2, Or.inr ⟨by grind, ?_⟩⟩
              rw [show u + 1 - 1 = u by grind, hu]
              grind
        · refine ⟨(r', n' + 1, w'), (r', n' + 1, a, b, c), ?_, ?_, ⟨rfl, rfl, by dsimp only; grind, by dsimp only; grind, g3, g4, g5, g6, g7, g8, g9, ?_, u, g11, g12, g13, g14⟩, msr_lt hn'⟩
          · unfold f_Y8_puts_L6
            rw [n_places, hw']
            simp only [bnd1, Option.bind_some]
            rw [if_neg hn, gd_48 g1 (by grind), if_neg one_ne, b4, n_isFree _ _ b2 (by grind), c2, if_neg hf]
            simp only [Option.bind_some]
            unfold f_Y8_puts_L6_J56 f_Y8_puts_L6_J153
            rw [gd_2450 (by decide) (by decide), gd_2450 (by grind) (by grind), if_pos rfl]
          · unfold f_X5_putAway_L6 f_X5_putAway_L6_J66
            rw [if_neg hn, if_neg hz, gd_48 g1 (by grind), b5, n_isFree5 _ _ _ h2 b2 b3, if_neg hf]
            rfl
          · intro z m m0 m1
            dsimp only at z m1 ⊢
            by_cases hm : m = n'
            · rw [hm]; exact hf
            · exact g10 z m m0 (by grind)) fu (q, 0, w) (q, 0, plot, ppc, pmk) ⟨rfl, rfl, by dsimp only; decide, by dsimp only; grind, q0, by dsimp only; grind, hP, AG.rf, AG.rf, by dsimp only; rw [Int32.sub_self, Int32.add_zero], fun p _ _ => Or.inl ⟨rfl, rfl⟩, fun _ m m0 m1 => absurd m1 (by dsimp only; grind), 0, by rw [Int32.sub_zero], by decide, fr.1, by
      dsimp only
      by_cases hq : 0 < q
      · exact Or.inl ⟨hq, by rw [Int32.mul_zero, Int32.sub_self]⟩
      · exact Or.inr ⟨by grind, Or.inl ⟨by grind, rfl⟩⟩⟩ (msr_fu (by dsimp only; decide) (by grind))
  obtain ⟨r, w'⟩ := d
  obtain ⟨l', p', k'⟩ := e
  obtain ⟨g1, g2, g3, g4, g5, g6, g7, u, g8, g9, g10, g11⟩ := w3
  dsimp only at g1 g2 g3 g4 g5 g6 g7 g8 g11
  refine ⟨r, l', p', k', w', u, ?_, ?_, g3, g4, g5, g6, g1, g2, g7, g8, g9, g10, ?_⟩
  · unfold f_X5_putAway; rw [w2]; rfl
  · unfold f_Y8_puts; rw [w1]; rfl
  · rcases g11 with ⟨y1, y2, y3⟩ | ⟨y1, ⟨y2, y3⟩ | ⟨y2, y3, y4, y5⟩⟩
    · exact Or.inr ⟨y1, y3, by rw [y2]; grind⟩
    · exact Or.inl ⟨y1, Or.inl ⟨y2, y3⟩⟩
    · refine Or.inl ⟨y1, Or.inr ⟨y2, ?_⟩⟩
      have := ceil_eq q1 r1 r2 (u := u - 1) (by grind) (by grind) rfl y3 y4
      rw [this]; grind
