/-! ===== sets of bits ===== -/
theorem and1_or {a b : Int32} : (a ||| b) &&& 1 = (a &&& 1) ||| (b &&& 1) := Int32.toBitVec_inj.1 BitVec.and_or_distrib_right
def bor (F : Int32 → Int32) : Nat → Int32
  | 0 => 0
  | k + 1 => bor F k ||| F (Int32.ofNat k)
theorem bor_inc {F : Int32 → Int32} {k : Int32} (h0 : 0 ≤ k) (h1 : k < 90000) : bor F (k + 1).toNatClampNeg = bor F k.toNatClampNeg ||| F k := by
  rw [tn_inc h0 h1]
  show bor F k.toNatClampNeg ||| F (Int32.ofNat k.toNatClampNeg) = _
  rw [of_tn h0]
theorem bor_eq {F G : Int32 → Int32} {N : Int32} (h : ∀ n : Int32, 0 ≤ n → n < N → F n = G n) : bor F N.toNatClampNeg = bor G N.toNatClampNeg := by
  have a : ∀ k : Nat, k ≤ N.toNatClampNeg → bor F k = bor G k := by
    intro k
    induction k with
    | zero => intro _; rfl
    | succ k ih =>
      intro hk
      obtain ⟨h1, h2, -⟩ := of_rng (show k < N.toNatClampNeg by omega)
      unfold bor
      rw [ih (by omega), h _ h1 h2]
  exact a _ (Nat.le_refl _)
theorem bor_zero {F : Int32 → Int32} {N : Int32} : bor F N.toNatClampNeg = 0 ↔ ∀ n : Int32, 0 ≤ n → n < N → F n = 0 := by
  have a : ∀ k : Nat, k ≤ N.toNatClampNeg → (bor F k = 0 ↔ ∀ j : Nat, j < k → F (Int32.ofNat j) = 0) := by
    intro k
    induction k with
    | zero => intro _; exact ⟨fun _ j hj => absurd hj (Nat.not_lt_zero _), fun _ => rfl⟩
    | succ k ih =>
      intro hk
      unfold bor
      rw [Int32.or_eq_zero_iff, ih (by omega)]
      constructor
      · rintro ⟨q1, q2⟩ j hj
        by_cases e : j = k
        · rw [e]; exact q2
        · exact q1 j (by omega)
      · intro q
        exact ⟨fun j hj => q j (by omega), q k (by omega)⟩
  rw [a _ (Nat.le_refl _)]
  constructor
  · intro q n n0 n1
    have := q n.toNatClampNeg (tn_lt n0 n1)
    rwa [of_tn n0] at this
  · intro q j hj
    obtain ⟨h1, h2, -⟩ := of_rng hj
    exact q _ h1 h2
theorem bor_loop {g : Int32 × Int32 → Option ((Int32 × Int32) ⊕ Int32)} {F : Int32 → Int32} {N : Int32} (h0 : 0 ≤ N) (h1 : N < 90000) (hg : ∀ a n, 0 ≤ n → n ≤ N → g (a, n) = if N ≤ n then some (.inr a) else some (.inl (a ||| F n, n + 1))) : loop g fu (0, 0) = some (bor F N.toNatClampNeg) := by
  obtain ⟨e, q1, q2⟩ := lp_one (f := g) (fun z => 0 ≤ z.2 ∧ z.2 ≤ N ∧ z.1 = bor F z.2.toNatClampNeg) (fun e => e = bor F N.toNatClampNeg) (fun z => msr z.2 N) (by
    rintro ⟨a, n⟩ ⟨g1, g2, g3⟩
    dsimp only at g1 g2 g3 ⊢
    rw [hg a n g1 g2]
    by_cases hn : N ≤ n
    · right
      rw [if_pos hn]
      exact ⟨_, rfl, by rw [g3, show n = N by grind]⟩
    · left
      rw [if_neg hn]
      have hn' : n < N := by grind
      refine ⟨_, rfl, ⟨by grind, by grind, ?_⟩, msr_lt hn'⟩
      dsimp only
      rw [g3, bor_inc g1 (by grind)]) fu (0, 0) ⟨by decide, h0, rfl⟩ (msr_fu (by decide) h1)
  rw [q1, q2]
theorem sh1 : ∀ k : Nat, k < 24 → ∀ m : Nat, m < 24 → ((((1 : Int32) <<< (Int32.ofNat k &&& 31)) >>> (Int32.ofNat m &&& 31)) &&& 1) = if m = k then 1 else 0 := by decide +kernel
/-- the lots of which an order has pieces, a bit each -/
def lse (n lcn : Int32) (oha : Nat → Int32) : Int32 := bor (fun m => if 1 ≤ ix oha (n * 24 + m) then 1 <<< (m &&& 31) else 0) lcn.toNatClampNeg
theorem bor_bit {P : Int32 → Prop} [DecidablePred P] {m : Nat} (hm : m < 24) : ∀ k : Nat, k ≤ 24 → ((bor (fun n => if P n then (1 : Int32) <<< (n &&& 31) else 0) k >>> (Int32.ofNat m &&& 31)) &&& 1) = if m < k ∧ P (Int32.ofNat m) then 1 else 0 := by
  intro k
  induction k with
  | zero =>
    intro _
    rw [if_neg (by omega)]
    show ((0 : Int32) >>> (Int32.ofNat m &&& 31)) &&& 1 = 0
    rw [Int32.zero_shiftRight]
    rfl
  | succ k ih =>
    intro hk
    unfold bor
    rw [Int32.shiftRight_or, and1_or, ih (by omega)]
    by_cases hp : P (Int32.ofNat k)
    · rw [if_pos hp, sh1 k (by omega) m hm]
      by_cases e : m = k
      · subst e
        rw [if_pos rfl, if_neg (by omega), if_pos ⟨by omega, hp⟩]
        rfl
      · rw [if_neg e]
        by_cases q : m < k ∧ P (Int32.ofNat m)
        · rw [if_pos q, if_pos ⟨by omega, q.2⟩]; rfl
        · rw [if_neg q, if_neg (fun z => q ⟨by omega, z.2⟩)]; rfl
    · rw [if_neg hp, Int32.zero_shiftRight]
      by_cases q : m < k ∧ P (Int32.ofNat m)
      · rw [if_pos q, if_pos ⟨by omega, q.2⟩]; rfl
      · rw [if_neg q, if_neg (fun z => q ⟨by
          have : m ≠ k := fun e => hp (e ▸ z.2)
          omega, z.2⟩)]
        rfl
theorem lse_bit {n lcn m : Int32} {oha : Nat → Int32} (l1 : lcn ≤ 24) (m0 : 0 ≤ m) (m1 : m < lcn) : ((lse n lcn oha >>> (m &&& 31)) &&& 1) = 1 ↔ 1 ≤ ix oha (n * 24 + m) := by
  have li := i_le.mp l1
  rw [show (24 : Int32).toInt = 24 from rfl] at li
  have mi := i_lt.mp m1
  have m0i := i_le.mp m0
  rw [show (0 : Int32).toInt = 0 from rfl] at m0i
  have e : m.toNatClampNeg = m.toInt.toNat := rfl
  have e2 : lcn.toNatClampNeg = lcn.toInt.toNat := rfl
  have h := bor_bit (P := fun m => 1 ≤ ix oha (n * 24 + m)) (m := m.toNatClampNeg) (by omega) lcn.toNatClampNeg (by omega)
  rw [of_tn m0] at h
  unfold lse
  rw [h]
  by_cases q : 1 ≤ ix oha (n * 24 + m)
  · rw [if_pos ⟨by omega, q⟩]
    exact ⟨fun _ => q, fun _ => rfl⟩
  · rw [if_neg (fun z => q z.2)]
    exact ⟨fun z => absurd z (by decide), fun z => absurd z q⟩
theorem a_lots {n lcn ocn : Int32} {oha : Nat → Int32} (oc : ocn ≤ 40) (l0 : 0 ≤ lcn) (l1 : lcn ≤ 24) (h0 : 0 ≤ n) (h1 : n < ocn) : f_X7_lotsOf n lcn ocn oha = some (.ok (lse n lcn oha)) := by
  unfold f_X7_lotsOf
  rw [n_needOrder _ _ oc, if_pos ⟨h0, h1⟩]
  simp only [bnd1, Option.bind_some, mx]
  rw [bor_loop (F := fun m => if 1 ≤ ix oha (n * 24 + m) then 1 <<< (m &&& 31) else 0) (g := fun z : Int32 × Int32 => f_X7_lotsOf_L9 n lcn ocn oha z.1 z.2) l0 (by grind) (fun a k k0 k1 => by
    dsimp only
    unfold f_X7_lotsOf_L9 f_X7_lotsOf_L9_J44
    by_cases hk : lcn ≤ k
    · rw [if_pos hk, if_pos hk]
    · rw [if_neg hk, if_neg hk, n_piecesOf n k ocn oha oc h0 h1 k0 (by grind)]
      simp only [bnd1, Option.bind_some]
      by_cases hh : 1 ≤ ix oha (n * 24 + k)
      · rw [if_neg (by grind), if_pos hh]
      · rw [if_pos (by grind), if_neg hh, Int32.or_zero])]
  rfl
/-- the customers that have a piece of a lot, a bit each -/
def cus (l ocn : Int32) (ocu oha : Nat → Int32) : Int32 := bor (fun o => if 1 ≤ ix oha (o * 24 + l) then 1 <<< (ix ocu o &&& 31) else 0) ocn.toNatClampNeg
theorem a_cus {l lcn ocn : Int32} {ocu oha : Nat → Int32} (c0 : 0 ≤ ocn) (oc : ocn ≤ 40) (l1 : lcn ≤ 24) (h0 : 0 ≤ l) (h1 : l < lcn) : f_X7_customersOf l lcn ocn ocu oha = some (.ok (cus l ocn ocu oha)) := by
  unfold f_X7_customersOf
  rw [n_needLot _ _ l1, if_pos ⟨h0, h1⟩]
  simp only [bnd1, Option.bind_some, mx]
  rw [bor_loop (F := fun o => if 1 ≤ ix oha (o * 24 + l) then 1 <<< (ix ocu o &&& 31) else 0) (g := fun z : Int32 × Int32 => f_X7_customersOf_L9 l lcn ocn ocu oha z.1 z.2) c0 (by grind) (fun a k k0 k1 => by
    dsimp only
    unfold f_X7_customersOf_L9 f_X7_customersOf_L9_J55
    by_cases hk : ocn ≤ k
    · rw [if_pos hk, if_pos hk]
    · rw [if_neg hk, if_neg hk, n_piecesOf k l ocn oha oc k0 (by grind) h0 (by grind)]
      simp only [bnd1, Option.bind_some]
      by_cases hh : 1 ≤ ix oha (k * 24 + l)
      · rw [if_neg (by grind), if_pos hh, gd_40 k0 (by grind)]
      · rw [if_pos (by grind), if_neg hh, Int32.or_zero])]
  rfl
theorem a_out {l ocn : Int32} {oha : Nat → Int32} (c0 : 0 ≤ ocn) (oc : ocn ≤ 40) (h0 : 0 ≤ l) (h1 : l < 24) : f_X2_piecesOutOf l ocn oha = some (isum (fun o => ix oha (o * 24 + l)) ocn.toNatClampNeg) := by
  unfold f_X2_piecesOutOf
  rw [sum_loop (F := fun o => ix oha (o * 24 + l)) (g := fun z : Int32 × Int32 => f_X2_piecesOutOf_L4 l ocn oha z.1 z.2) c0 (by grind) (fun a k k0 k1 => by
    dsimp only
    unfold f_X2_piecesOutOf_L4
    by_cases hk : ocn ≤ k
    · rw [if_pos hk, if_pos hk]
    · rw [if_neg hk, if_neg hk, n_piecesOf k l ocn oha oc k0 (by grind) h0 h1]
      simp only [bnd1, Option.bind_some])]
  rfl
theorem zS_zero {F : Int32 → Int} {N : Int32} (h : ∀ n : Int32, 0 ≤ n → n < N → 0 ≤ F n) : zS F N.toNatClampNeg = 0 ↔ ∀ n : Int32, 0 ≤ n → n < N → F n = 0 := by
  have a : ∀ k : Nat, k ≤ N.toNatClampNeg → 0 ≤ zS F k ∧ (zS F k = 0 ↔ ∀ j : Nat, j < k → F (Int32.ofNat j) = 0) := by
    intro k
    induction k with
    | zero => intro _; exact ⟨Int.le_refl 0, fun _ j hj => absurd hj (Nat.not_lt_zero _), fun _ => rfl⟩
    | succ k ih =>
      intro hk
      obtain ⟨i1, i2⟩ := ih (by omega)
      obtain ⟨h1, h2, -⟩ := of_rng (show k < N.toNatClampNeg by omega)
      have h3 := h _ h1 h2
      have e : zS F (k + 1) = zS F k + F (Int32.ofNat k) := rfl
      refine ⟨by omega, ?_⟩
      rw [e]
      constructor
      · intro q j hj
        by_cases ej : j = k
        · rw [ej]; omega
        · exact i2.mp (by omega) j (by omega)
      · intro q
        have q1 := i2.mpr (fun j hj => q j (by omega))
        have q2 := q k (by omega)
        omega
  rw [(a _ (Nat.le_refl _)).2]
  constructor
  · intro q n n0 n1
    have := q n.toNatClampNeg (tn_lt n0 n1)
    rwa [of_tn n0] at this
  · intro q j hj
    obtain ⟨h1, h2, -⟩ := of_rng hj
    exact q _ h1 h2
theorem shc_ne {c : Int32} (h0 : 0 ≤ c) (h1 : c ≤ 7) : (1 : Int32) <<< (c &&& 31) ≠ 0 := by
  have h : ∀ k : Nat, k < 8 → (1 : Int32) <<< (Int32.ofNat k &&& 31) ≠ 0 := by decide +kernel
  have a := i_le.mp h1
  rw [show (7 : Int32).toInt = 7 from rfl] at a
  have b := i_le.mp h0
  rw [show (0 : Int32).toInt = 0 from rfl] at b
  have e : c.toNatClampNeg = c.toInt.toNat := rfl
  have := h c.toNatClampNeg (by omega)
  rwa [of_tn h0] at this
/-- no customer has a piece: no piece is out -/
theorem cus_out {l ocn lcn prods : Int32} {ocu opr oop odu oli oha w : Nat → Int32} (c0 : 0 ≤ ocn) (oc : ocn ≤ 40) (hO : QO ocn prods ocu opr oop odu oli w) (hH : QH ocn lcn oha w) (h0 : 0 ≤ l) (h1 : l < 24) : isum (fun o => ix oha (o * 24 + l)) ocn.toNatClampNeg = 0 ↔ cus l ocn ocu oha = 0 := by
  have hr : ∀ o : Int32, 0 ≤ o → o < ocn → 0 ≤ (ix oha (o * 24 + l)).toInt ∧ (ix oha (o * 24 + l)).toInt ≤ 10000 := by
    intro o o0 o1
    obtain ⟨-, q1, q2, -⟩ := hH o l o0 o1 h0 h1
    have a := i_le.mp q1
    have b := i_le.mp q2
    rw [show (0 : Int32).toInt = 0 from rfl] at a
    rw [show (50 : Int32).toInt = 50 from rfl] at b
    omega
  have e := zS_isum (F := fun o => ix oha (o * 24 + l)) (N := ocn) (by grind) hr
  have e0 : isum (fun o => ix oha (o * 24 + l)) ocn.toNatClampNeg = 0 ↔ zS (fun o => (ix oha (o * 24 + l)).toInt) ocn.toNatClampNeg = 0 := by
    rw [← e]
    constructor
    · intro q; rw [q]; rfl
    · intro q; exact Int32.toInt_inj.mp q
  rw [e0, zS_zero (fun o o0 o1 => (hr o o0 o1).1)]
  unfold cus
  rw [bor_zero]
  constructor
  · intro q o o0 o1
    have q1 := q o o0 o1
    rw [if_neg]
    intro z
    have := i_le.mp z
    rw [show (1 : Int32).toInt = 1 from rfl] at this
    omega
  · intro q o o0 o1
    have q1 := q o o0 o1
    obtain ⟨-, q2, q3, -⟩ := hO o o0 o1
    by_cases z : 1 ≤ ix oha (o * 24 + l)
    · rw [if_pos z] at q1
      exact absurd q1 (shc_ne q2 q3)
    · have h2 := (hr o o0 o1).1
      rw [i_le, show (1 : Int32).toInt = 1 from rfl] at z
      omega
/-! ===== isKnown ===== -/
theorem t_isKnown {tod prods lan pos rom gp plc lcn ocn lo od : Int32} {plot ppc lpr lla lco lst ocu opr oop odu oli oha w : Nat → Int32} (hD : QD tod prods lan pos rom gp plc lcn ocn w) (hO : QO ocn prods ocu opr oop odu oli w) (hH : QH ocn lcn oha w) (h1 : lo = lcn) (h2 : od = ocn) : f_L_isKnown lo od plc plot ppc lcn lpr lla lco lst ocn ocu opr oop odu oli oha = some 1 := by
  obtain ⟨d0, d1, d2, d3, d4, d5, d6, d7, d8, d9, d10, d11, d12, d13, d14, d15, d16, d17, d18, d19, d20, d21, d22, d23, d24, d25, d26⟩ := hD
  subst h1
  subst h2
  obtain ⟨e, q1, q2⟩ := lp_one (f := fun z : Int32 => f_L_isKnown_L2 lo od plc plot ppc lo lpr lla lco lst od ocu opr oop odu oli oha z) (fun z => 0 ≤ z ∧ z ≤ lo) (fun e => e = .inr ()) (fun z => msr z lo) (by
    rintro l ⟨g1, g2⟩
    unfold f_L_isKnown_L2
    by_cases hn : lo ≤ l
    · right
      rw [if_pos hn]
      exact ⟨_, rfl, rfl⟩
    · left
      have hl : l < lo := by grind
      have hl24 : l < 24 := by grind
      rw [if_neg hn]
      rw [bor_loop (F := fun o => if 1 ≤ ix oha (o * 24 + l) then 1 <<< (ix ocu o &&& 31) else 0) (g := fun z : Int32 × Int32 => f_L_isKnown_L14 l lo od plc plot ppc lo lpr lla lco lst od ocu opr oop odu oli oha z.1 z.2) d25 (by grind) (fun a k k0 k1 => by
        dsimp only
        unfold f_L_isKnown_L14 f_L_isKnown_L14_J52
        by_cases hk : od ≤ k
        · rw [if_pos hk, if_pos hk]
        · have hk' : k < od := by grind
          rw [if_neg hk, if_neg hk, a_lots d26 d22 d23 k0 hk']
          simp only [bnd1, Option.bind_some, mx]
          by_cases hh : 1 ≤ ix oha (k * 24 + l)
          · rw [if_pos ((lse_bit d23 g1 hl).mpr hh), if_pos hh, a_or0 d26 k0 hk']
            simp only [Option.bind_some, mx]
          · rw [if_neg (fun z => hh ((lse_bit d23 g1 hl).mp z)), if_neg hh, Int32.or_zero])]
      simp only [bnd1, Option.bind_some]
      rw [a_cus d25 d26 d23 g1 hl]
      simp only [Option.bind_some, mx]
      rw [if_pos (show cus l od ocu oha = bor (fun o => if 1 ≤ ix oha (o * 24 + l) then 1 <<< (ix ocu o &&& 31) else 0) od.toNatClampNeg from rfl), a_lt5 d23 g1 hl (a_out d25 d26 g1 hl24)]
      simp only [Option.bind_some, mx]
      refine ⟨l + 1, ?_, ⟨by grind, by grind⟩, msr_lt hl⟩
      have hz := cus_out d25 d26 hO hH g1 hl24
      unfold f_L_isKnown_L2_J87 f_L_isKnown_L2_J96
      by_cases hc : cus l od ocu oha = 0
      · have hc2 : bor (fun o => if 1 ≤ ix oha (o * 24 + l) then 1 <<< (ix ocu o &&& 31) else 0) od.toNatClampNeg = 0 := hc
        rw [if_pos (hz.mpr hc), if_pos hc2, if_pos rfl]
      · have hc2 : ¬ bor (fun o => if 1 ≤ ix oha (o * 24 + l) then 1 <<< (ix ocu o &&& 31) else 0) od.toNatClampNeg = 0 := hc
        rw [if_neg (fun z => hc (hz.mp z)), if_neg hc2, if_pos rfl]) fu 0 ⟨by decide, d22⟩ (msr_fu (by decide) (by grind))
  unfold f_L_isKnown
  rw [q1, q2]
  rfl
