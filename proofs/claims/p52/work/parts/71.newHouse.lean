/-! ===== a house begins ===== -/
theorem bg_zero {y1 y2 y3 y4 : Int32} {near w : Nat → Int32} : ∃ w', loop (fun z : Int32 × (Nat → Int32) => f_Y8_begins_L3 y1 y2 y3 y4 near z.1 z.2) fu (0, w) = some w' ∧ ∀ i : Int32, 0 ≤ i → i < 2450 → ix w' i = if i < 2423 then 0 else ix w i := by
  refine lp_one (f := fun z : Int32 × (Nat → Int32) => f_Y8_begins_L3 y1 y2 y3 y4 near z.1 z.2) (fun s => 0 ≤ s.1 ∧ s.1 ≤ 2423 ∧ ∀ i : Int32, 0 ≤ i → i < 2450 → ix s.2 i = if i < s.1 then 0 else ix w i) _ (fun z => msr z.1 2423) ?_ fu (0, w) ⟨by dsimp only; decide, by dsimp only; decide, fun i i0 i1 => by rw [if_neg (by dsimp only; grind)]⟩ (msr_fu (by dsimp only; decide) (by decide))
  rintro ⟨n, f⟩ ⟨g1, g2, g3⟩
  dsimp only at g1 g2 g3 ⊢
  unfold f_Y8_begins_L3
  by_cases hn : 2423 ≤ n
  · have : n = 2423 := by grind
    subst this
    exact Or.inr ⟨f, by rw [if_pos hn], g3⟩
  · left
    refine ⟨(n + 1, upd f n.toNatClampNeg 0), by rw [if_neg hn, gd_2450 g1 (by grind)], ⟨by dsimp only; grind, by dsimp only; grind, ?_⟩, msr_lt (by grind)⟩
    intro i i0 i1
    dsimp only
    have u : ix (upd f n.toNatClampNeg 0) i = if i = n then 0 else ix f i := upd_at g1 i0
    rw [u]
    by_cases h : i = n
    · rw [if_pos h, if_pos (by grind)]
    · rw [if_neg h, g3 i i0 i1]
      by_cases h2 : i < n
      · rw [if_pos h2, if_pos (by grind)]
      · rw [if_neg h2, if_neg (by grind)]
theorem bg_none {near w : Nat → Int32} : ∃ w', loop (fun z : Int32 × (Nat → Int32) => f_Y8_begins_L57 near z.1 z.2) fu (0, w) = some w' ∧ ∀ i : Int32, 0 ≤ i → i < 2450 → ix w' i = if 15 ≤ i ∧ i < 63 then -1 else ix w i := by
  refine lp_one (f := fun z : Int32 × (Nat → Int32) => f_Y8_begins_L57 near z.1 z.2) (fun s => 0 ≤ s.1 ∧ s.1 ≤ 48 ∧ ∀ i : Int32, 0 ≤ i → i < 2450 → ix s.2 i = if 15 ≤ i ∧ i < 15 + s.1 then -1 else ix w i) _ (fun z => msr z.1 48) ?_ fu (0, w) ⟨by dsimp only; decide, by dsimp only; decide, fun i i0 i1 => by rw [if_neg (by dsimp only; grind)]⟩ (msr_fu (by dsimp only; decide) (by decide))
  rintro ⟨n, f⟩ ⟨g1, g2, g3⟩
  dsimp only at g1 g2 g3 ⊢
  unfold f_Y8_begins_L57
  by_cases hn : 48 ≤ n
  · have : n = 48 := by grind
    subst this
    exact Or.inr ⟨f, by rw [if_pos hn], g3⟩
  · left
    refine ⟨(n + 1, upd f (15 + n).toNatClampNeg (-1)), by rw [if_neg hn, gd_2450 (by grind) (by grind)], ⟨by dsimp only; grind, by dsimp only; grind, ?_⟩, msr_lt (by grind)⟩
    intro i i0 i1
    dsimp only
    have u : ix (upd f (15 + n).toNatClampNeg (-1)) i = if i = 15 + n then -1 else ix f i := upd_at (by grind) i0
    rw [u]
    by_cases h : i = 15 + n
    · rw [if_pos h, if_pos (by grind)]
    · rw [if_neg h, g3 i i0 i1]
      by_cases h2 : 15 ≤ i ∧ i < 15 + n
      · rw [if_pos h2, if_pos (by grind)]
      · rw [if_neg h2, if_neg (by grind)]
/-- an empty house's row -/
def EW (v1 v2 v3 v4 : Int32) (w' : Nat → Int32) : Prop := ∀ i : Int32, 0 ≤ i → i < 2423 → ix w' i = if i = 1 then v1 else if i = 2 then v2 else if i = 3 then v3 else if i = 4 then v4 else if 15 ≤ i ∧ i < 63 then -1 else 0
theorem bg_ok {v1 v2 v3 v4 : Int32} {w near : Nat → Int32} (c2 : 1 ≤ v2) (c0 : 0 ≤ v1 * v2) (c1 : v1 * v2 ≤ 48) : ∃ w' near', f_Y8_begins v1 v2 v3 v4 w near = some (w', near') ∧ EW v1 v2 v3 v4 w' ∧ AG 2423 2450 w w' ∧ QLs (v1 * v2) (DA v4 v2) near' := by
  obtain ⟨wa, a1, a2⟩ := bg_zero (y1 := v1) (y2 := v2) (y3 := v3) (y4 := v4) (near := near) (w := w)
  obtain ⟨wb, b1, b2⟩ := bg_none (near := near) (w := upd (upd (upd (upd wa (1 : Int32).toNatClampNeg v1) (2 : Int32).toNatClampNeg v2) (3 : Int32).toNatClampNeg v3) (4 : Int32).toNatClampNeg v4)
  have hb : ∀ i : Int32, 0 ≤ i → i < 2450 → ix wb i = if 15 ≤ i ∧ i < 63 then -1 else if i = 4 then v4 else if i = 3 then v3 else if i = 2 then v2 else if i = 1 then v1 else ix wa i := by
    intro i i0 i1
    have u4 : ∀ (f : Nat → Int32) (k v : Int32), 0 ≤ k → ix (upd f k.toNatClampNeg v) i = if i = k then v else ix f i := fun f k v hk => upd_at hk i0
    rw [b2 i i0 i1, u4 _ 4 _ (by decide), u4 _ 3 _ (by decide), u4 _ 2 _ (by decide), u4 _ 1 _ (by decide)]
  have e : EW v1 v2 v3 v4 wb := by
    intro i i0 i1
    rw [hb i i0 (by grind), a2 i i0 (by grind), if_pos i1]
    grind
  have w1 : wb 1 = v1 := e 1 (by decide) (by decide)
  have w2 : wb 2 = v2 := e 2 (by decide) (by decide)
  have w4 : wb 4 = v4 := e 4 (by decide) (by decide)
  obtain ⟨near', n1, n2⟩ := lays_ok (lan := v1) (near := near) (show wb 1 * wb 2 = v1 * v2 by rw [w1, w2]) w2 w4 c2 c0 c1
  refine ⟨wb, near', ?_, e, ?_, n2⟩
  · unfold f_Y8_begins
    rw [a1]
    simp only [bnd1, Option.bind_some]
    rw [gd_2450 (by decide) (by decide), gd_2450 (by decide) (by decide), gd_2450 (by decide) (by decide), gd_2450 (by decide) (by decide), b1]
    simp only [Option.bind_some]
    rw [n1]; rfl
  · intro i i0 i1
    rw [hb i (by grind) i1, a2 i (by grind) i1]
    grind
theorem bd_loop {plc y1 y2 y3 y4 : Int32} {y5 : Int64} {pbd plot ppc pmk : Nat → Int32} (c0 : 0 ≤ plc) (c1 : plc ≤ 48) : ∃ r, loop (fun z : Int32 × (Nat → Int32) × (Nat → Int32) × (Nat → Int32) => f_X5_build_L47 y1 y2 y3 y4 plc y5 pbd z.1 z.2.1 z.2.2.1 z.2.2.2) fu (0, plot, ppc, pmk) = some r ∧ ∀ i : Int32, 0 ≤ i → i < plc → ix r.1 i = -1 ∧ ix r.2.1 i = 0 ∧ ix r.2.2 i = 0 := by
  refine lp_one (f := fun z : Int32 × (Nat → Int32) × (Nat → Int32) × (Nat → Int32) => f_X5_build_L47 y1 y2 y3 y4 plc y5 pbd z.1 z.2.1 z.2.2.1 z.2.2.2) (fun s => 0 ≤ s.1 ∧ s.1 ≤ plc ∧ ∀ i : Int32, 0 ≤ i → i < s.1 → ix s.2.1 i = -1 ∧ ix s.2.2.1 i = 0 ∧ ix s.2.2.2 i = 0) _ (fun z => msr z.1 plc) ?_ fu _ ⟨by dsimp only; decide, c0, fun i i0 i1 => absurd i1 (by dsimp only; grind)⟩ (msr_fu (by dsimp only; decide) (by grind))
  rintro ⟨n, a, b, c⟩ ⟨g1, g2, g3⟩
  dsimp only at g1 g2 g3 ⊢
  unfold f_X5_build_L47
  by_cases hn : plc ≤ n
  · have : n = plc := by grind
    subst this
    exact Or.inr ⟨(a, b, c), by rw [if_pos hn], g3⟩
  · left
    have hn' : n < plc := by grind
    refine ⟨(n + 1, upd a n.toNatClampNeg (-1), upd b n.toNatClampNeg 0, upd c n.toNatClampNeg 0), ?_, ⟨by dsimp only; grind, by dsimp only; grind, ?_⟩, msr_lt hn'⟩
    · rw [if_neg hn, n_set c1 g1 hn']
      simp only [bnd3, Option.bind_some, ↓reduceIte]
    · intro i i0 i1
      dsimp only at i1 ⊢
      have u : ∀ (f : Nat → Int32) (v : Int32), ix (upd f n.toNatClampNeg v) i = if i = n then v else ix f i := fun f v => upd_at g1 i0
      rw [u, u, u]
      by_cases h : i = n
      · rw [if_pos h, if_pos h, if_pos h]; exact ⟨rfl, rfl, rfl⟩
      · rw [if_neg h, if_neg h, if_neg h]; exact g3 i i0 (by grind)
theorem bd_ok {v1 v2 v3 v4 y1 y2 y3 y4 y5 : Int32} {y6 : Int64} {plot ppc pmk pbd : Nat → Int32} (l1 : 1 ≤ v1) (l2 : v1 ≤ 6) (p1 : 1 ≤ v2) (p2 : v2 ≤ 8) (g1 : 1 ≤ v4) (g2 : v4 ≤ 5) (c0 : 0 ≤ v1 * v2) (c1 : v1 * v2 ≤ 48) :
    ∃ l' p' k' b', f_X5_build v1 v2 v3 v4 y1 y2 y3 y4 y5 y6 plot ppc pmk pbd = some (v1, v2, v3, v4, v1 * v2, 0, l', p', k', b') ∧ (∀ i : Int32, 0 ≤ i → i < v1 * v2 → ix l' i = -1 ∧ ix p' i = 0 ∧ ix k' i = 0) ∧ QLs (v1 * v2) (DA v4 v2) b' := by
  obtain ⟨r, r1, r2⟩ := bd_loop (y1 := v1) (y2 := v2) (y3 := v3) (y4 := v4) (y5 := 0) (pbd := pbd) (plot := plot) (ppc := ppc) (pmk := pmk) c0 c1
  obtain ⟨l', p', k'⟩ := r
  dsimp only at r1 r2
  have hm : (if 48 < v1 * v2 then 48 else v1 * v2) = v1 * v2 := if_neg (by grind)
  have rg := fun i i0 i1 => DI_rng (lan := v1) (pos := v2) (gp := v4) (i := i) l1 l2 p1 p2 g1 g2 i0 i1
  have r0 := DI_rng (lan := v1) (pos := v2) (gp := v4) (i := 0) l1 l2 p1 p2 g1 g2 (by decide) (by
    have : v1 * v2 ≠ 0 := by
      intro z
      have e1 : (v1 * v2).toInt = v1.toInt * v2.toInt := by
        rw [i_le] at l1 l2 p1 p2
        rw [show (1 : Int32).toInt = 1 from rfl] at l1 p1
        rw [show (6 : Int32).toInt = 6 from rfl] at l2
        rw [show (8 : Int32).toInt = 8 from rfl] at p2
        have m1 : v1.toInt * v2.toInt ≤ 6 * 8 := Int.mul_le_mul l2 p2 (by omega) (by omega)
        have m2 : 0 ≤ v1.toInt * v2.toInt := Int.mul_nonneg (by omega) (by omega)
        exact i_mul (by omega) (by omega)
      rw [z] at e1
      rw [i_le] at l1 p1
      rw [show (1 : Int32).toInt = 1 from rfl] at l1 p1
      have : 1 * 1 ≤ v1.toInt * v2.toInt := Int.mul_le_mul l1 p1 (by omega) (by omega)
      rw [show (0 : Int32).toInt = 0 from rfl] at e1
      omega
    grind)
  obtain ⟨b', b1, b2⟩ := sort_ok (lan := v1) (pos := v2) (gp := v4) (plc := v1 * v2) (top := v4 * v1 + v2) (f := pbd) p1 c0 c1 (by grind) r0.2.2 (fun v => (s_dist (v := v) (w := fun k => if k = 2 then v2 else v4) rfl rfl p1).1) (fun i i0 i1 => ⟨(rg i i0 i1).1, (rg i i0 i1).2.1⟩) rfl
  refine ⟨l', p', k', b', ?_, r2, b2⟩
  unfold f_X5_build
  rw [hm, r1]
  simp only [bnd1, bnd3, Option.bind_some]
  rw [b1]; rfl
theorem eb_loop {y1 y2 y3 y4 y5 : Int32} {bks : Nat → Int32} : ∃ b', loop (fun z : Int32 × (Nat → Int32) => f_X6_empty_L12 y1 y2 y3 y4 y5 z.1 z.2) fu (0, bks) = some b' ∧ ∀ i : Int32, 0 ≤ i → i < 6 → ix b' i = 0 := by
  refine lp_one (f := fun z : Int32 × (Nat → Int32) => f_X6_empty_L12 y1 y2 y3 y4 y5 z.1 z.2) (fun s => 0 ≤ s.1 ∧ s.1 ≤ 6 ∧ ∀ i : Int32, 0 ≤ i → i < s.1 → ix s.2 i = 0) _ (fun z => msr z.1 6) ?_ fu (0, bks) ⟨by dsimp only; decide, by dsimp only; decide, fun i i0 i1 => absurd i1 (by dsimp only; grind)⟩ (msr_fu (by dsimp only; decide) (by decide))
  rintro ⟨n, f⟩ ⟨g1, g2, g3⟩
  dsimp only at g1 g2 g3 ⊢
  unfold f_X6_empty_L12
  by_cases hn : 6 ≤ n
  · have : n = 6 := by grind
    subst this
    exact Or.inr ⟨f, by rw [if_pos hn], g3⟩
  · left
    refine ⟨(n + 1, upd f n.toNatClampNeg 0), by rw [if_neg hn, gd_6 g1 (by grind)], ⟨by dsimp only; grind, by dsimp only; grind, ?_⟩, msr_lt (by grind)⟩
    intro i i0 i1
    dsimp only at i1 ⊢
    have u : ix (upd f n.toNatClampNeg 0) i = if i = n then 0 else ix f i := upd_at g1 i0
    rw [u]
    by_cases h : i = n
    · rw [if_pos h]
    · rw [if_neg h]; exact g3 i i0 (by grind)
theorem EW_at {v1 v2 v3 v4 : Int32} {w' : Nat → Int32} (hw : EW v1 v2 v3 v4 w') : (∀ i : Int32, 5 ≤ i → i < 15 → ix w' i = 0) ∧ (∀ i : Int32, 63 ≤ i → i < 2423 → ix w' i = 0) ∧ ∀ i : Int32, 15 ≤ i → i < 63 → ix w' i = -1 := by
  refine ⟨fun i i0 i1 => ?_, fun i i0 i1 => ?_, fun i i0 i1 => ?_⟩
  · rw [hw i (by clear hw; grind) (by clear hw; grind)]; clear hw; grind
  · rw [hw i (by clear hw; grind) (by clear hw; grind)]; clear hw; grind
  · rw [hw i (by clear hw; grind) (by clear hw; grind), if_neg (by clear hw; grind), if_neg (by clear hw; grind), if_neg (by clear hw; grind), if_neg (by clear hw; grind), if_pos ⟨i0, i1⟩]
/-- an empty house on both sides -/
theorem RS_empty {v1 v2 v3 v4 icnt : Int32} {itm bks trm plot ppc pmk pbd lpr lla lco lst lbl ocu opr oop odu oli obd oha ost w' : Nat → Int32} (l1 : 1 ≤ v1) (l2 : v1 ≤ 6) (p1 : 1 ≤ v2) (p2 : v2 ≤ 8) (r1 : 1 ≤ v3) (r2 : v3 ≤ 20) (g1 : 1 ≤ v4) (g2 : v4 ≤ 5) (c0 : 1 ≤ v1 * v2) (c1 : v1 * v2 ≤ 48)
    (hw : EW v1 v2 v3 v4 w') (hb : ∀ i : Int32, 0 ≤ i → i < 6 → ix bks i = 0) (hp : ∀ i : Int32, 0 ≤ i → i < v1 * v2 → ix plot i = -1 ∧ ix ppc i = 0 ∧ ix pmk i = 0) (hs : QLs (v1 * v2) (DA v4 v2) pbd) (hi : QI icnt itm w') (ht : QT trm w') :
    RS (0, 0, icnt, itm, bks, trm, v1, v2, v3, v4, v1 * v2, 0, plot, ppc, pmk, pbd, 0, lpr, lla, lco, lst, lbl, 0, 0, ocu, opr, oop, odu, oli, obd, oha, ost) w' := by
  rw [RS_mk]
  obtain ⟨e0, e1, em⟩ := EW_at hw
  refine ⟨⟨hw 0 (by decide) (by decide), by decide, by decide, hw 1 (by decide) (by decide), l1, l2, hw 2 (by decide) (by decide), p1, p2, hw 3 (by decide) (by decide), r1, r2, hw 4 (by decide) (by decide), g1, g2, rfl, c0, c1, hw 5 (by decide) (by decide), by decide, by decide, hw 6 (by decide) (by decide), by decide, by decide, hw 7 (by decide) (by decide), by decide, by decide⟩, ?_, ?_, ?_, ?_, ?_, ?_, ?_, ?_, ?_, ?_, hi, ht, ?_, ?_⟩
  · intro n n0 n1
    rw [hb n n0 n1]; exact e0 _ (by grind) (by grind)
  · intro n n0 n1
    obtain ⟨h1, h2, h3⟩ := hp n n0 n1
    rw [h1, h2, h3]
    refine ⟨?_, e1 _ (by grind) (by grind), e1 _ (by grind) (by grind), by decide, by grind, Or.inl ⟨rfl, rfl⟩⟩
    exact em _ (by grind) (by grind)
  · refine ⟨by decide, ?_⟩
    intro n n0 n1
    refine Or.inl ⟨e1 _ (by grind) (by grind), ?_⟩
    rw [Int64.zero_shiftRight]; decide
  · intro n n0 n1; exact absurd n1 (by grind)
  · exact ⟨fun n n0 n1 => absurd n1 (by grind), fun a b a0 ab bc => absurd bc (by grind), fun l l0 l1 => absurd l1 (by grind)⟩
  · intro n n0 n1; exact absurd n1 (by grind)
  · exact ⟨fun n n0 n1 => absurd n1 (by grind), fun a b a0 ab bc => absurd bc (by grind), fun l l0 l1 => absurd l1 (by grind)⟩
  · intro n m n0 n1; exact absurd n1 (by grind)
  · refine ⟨e0 8 (by decide) (by decide), by decide, fun n m n0 n1 => absurd n1 (by grind), fun n m m' n0 n1 => absurd n1 (by grind), ?_⟩
    intro n m n0 n1 m0 m1
    exact ⟨e1 _ (by grind) (by grind), e1 _ (by grind) (by grind)⟩
  · exact ⟨fun n n0 n1 => absurd n1 (by grind), by show (0 : Int) + 0 ≤ 50 * 0; omega⟩
  · refine ⟨0, ?_, ?_⟩
    · rw [hand_sum (by grind) c1, isum_eq (G := fun _ => 0 * 0) (fun i i0 i1 => (hp i i0 i1).2.1), isum_mul, Int32.zero_mul]
    · have b0 : bks 0 = 0 := hb 0 (by decide) (by decide)
      have b1 : bks 1 = 0 := hb 1 (by decide) (by decide)
      have b2 : bks 2 = 0 := hb 2 (by decide) (by decide)
      have b3 : bks 3 = 0 := hb 3 (by decide) (by decide)
      have b4 : bks 4 = 0 := hb 4 (by decide) (by decide)
      have b5 : bks 5 = 0 := hb 5 (by decide) (by decide)
      rw [b0, b1, b2, b3, b4, b5]; decide
  · intro w near0 h1 h2 h4
    obtain ⟨near', n1, n2⟩ := lays_ok (lan := v1) (near := near0) (show w 1 * w 2 = v1 * v2 by rw [h1, h2]) h2 h4 p1 (by grind) c1
    exact ⟨near', n1, QR_of hs n2⟩
theorem prod_rng {a b : Int32} (a1 : 1 ≤ a) (a2 : a ≤ 6) (b1 : 1 ≤ b) (b2 : b ≤ 8) : 1 ≤ a * b ∧ a * b ≤ 48 := by
  have h : a = 1 ∨ a = 2 ∨ a = 3 ∨ a = 4 ∨ a = 5 ∨ a = 6 := by grind
  rcases h with rfl | rfl | rfl | rfl | rfl | rfl <;> constructor <;> grind

set_option maxRecDepth 4000 in
theorem cs_0 (PL : (Nat → Int32) → (Nat → Int32) → (Nat → Int32) → (Nat → Int64) → (Nat → Int64) → (Nat → Int32) → Prop) (cp1_acts : Int32) (cp1_nextSlot : Int32) (cp1_now_today : Int32) (cp1_now_products : Int32) (cp1_now_itemCount : Int32) (cp1_now_items : Nat → Int32) (cp1_now_books : Nat → Int32) (cp1_now_terms : Nat → Int32) (cp1_now_shelves_lanes : Int32) (cp1_now_shelves_positions : Int32) (cp1_now_shelves_room : Int32) (cp1_now_shelves_gap : Int32) (cp1_now_shelves_places : Int32) (cp1_now_shelves_picked : Int64) (cp1_now_shelves_lot : Nat → Int32) (cp1_now_shelves_pieces : Nat → Int32) (cp1_now_shelves_mark : Nat → Int32) (cp1_now_shelves_byDistance : Nat → Int32) (cp1_now_lots_count : Int32) (cp1_now_lots_product : Nat → Int32) (cp1_now_lots_last : Nat → Int32) (cp1_now_lots_cost : Nat → Int32) (cp1_now_lots_state : Nat → Int32) (cp1_now_lots_byLast : Nat → Int32) (cp1_now_orders_count : Int32) (cp1_now_orders_gifts : Int32) (cp1_now_orders_customer : Nat → Int32) (cp1_now_orders_product : Nat → Int32) (cp1_now_orders_open : Nat → Int32) (cp1_now_orders_due : Nat → Int32) (cp1_now_orders_life : Nat → Int32) (cp1_now_orders_byDue : Nat → Int32) (cp1_now_orders_had : Nat → Int32) (cp1_now_orders_stamps : Nat → Int32) (cp1_hk : Nat) (cp1_st : Nat → StT) (cp1_plan_terms : Nat → Int32) (cp1_plan_low : Nat → Int32) (cp1_plan_high : Nat → Int32) (cp1_plan_bottom : Nat → Int64) (cp1_plan_cost : Nat → Int64) (cp1_plan_act : Nat → Int32) (cp1_picker_deepest : Int32) (cp1_picker_shallowest : Int32) (cp1_picker_widest : Int32) (cp1_picker_least : Nat → Int32) (cp1_picker_next : Nat → Int32) (cp1_rest : Nat → Int32) (cp1_packed : Nat → Int32) (cp2_raised : Int32) (cp2_undos : Int32) (cp2_eldest : Int32) (cp2_w : Nat → Int32) (cp2_kept : Nat → Int32) (cp2_copy : Nat → Int32) (cp2_near : Nat → Int32) (cp2_isDone : Nat → Int32) (cp2_lane : Nat → Int32) (cp2_position : Nat → Int32) (cp2_least : Nat → Int32) (cp2_boxesOf : Nat → Int32) (cp2_staying : Nat → Int64) (cp2_planned : Nat → Int64) (cp2_scale : Nat → Int64) (cp3 : Nat → Int64) (v1 v2 v3 v4 v5 : Int32) (hR : RC PL (cp1_now_today, cp1_now_products, cp1_now_itemCount, cp1_now_items, cp1_now_books, cp1_now_terms, cp1_now_shelves_lanes, cp1_now_shelves_positions, cp1_now_shelves_room, cp1_now_shelves_gap, cp1_now_shelves_places, cp1_now_shelves_picked, cp1_now_shelves_lot, cp1_now_shelves_pieces, cp1_now_shelves_mark, cp1_now_shelves_byDistance, cp1_now_lots_count, cp1_now_lots_product, cp1_now_lots_last, cp1_now_lots_cost, cp1_now_lots_state, cp1_now_lots_byLast, cp1_now_orders_count, cp1_now_orders_gifts, cp1_now_orders_customer, cp1_now_orders_product, cp1_now_orders_open, cp1_now_orders_due, cp1_now_orders_life, cp1_now_orders_byDue, cp1_now_orders_had, cp1_now_orders_stamps) cp2_w cp2_near cp1_acts cp1_nextSlot cp1_hk cp1_st cp2_undos cp2_eldest cp2_kept cp1_plan_terms cp1_plan_low cp1_plan_high cp1_plan_bottom cp1_plan_cost cp1_plan_act) : ∃ z', f_c0 v1 v2 v3 v4 v5 (cp1_acts, cp1_nextSlot, cp1_now_today, cp1_now_products, cp1_now_itemCount, cp1_now_items, cp1_now_books, cp1_now_terms, cp1_now_shelves_lanes, cp1_now_shelves_positions, cp1_now_shelves_room, cp1_now_shelves_gap, cp1_now_shelves_places, cp1_now_shelves_picked, cp1_now_shelves_lot, cp1_now_shelves_pieces, cp1_now_shelves_mark, cp1_now_shelves_byDistance, cp1_now_lots_count, cp1_now_lots_product, cp1_now_lots_last, cp1_now_lots_cost, cp1_now_lots_state, cp1_now_lots_byLast, cp1_now_orders_count, cp1_now_orders_gifts, cp1_now_orders_customer, cp1_now_orders_product, cp1_now_orders_open, cp1_now_orders_due, cp1_now_orders_life, cp1_now_orders_byDue, cp1_now_orders_had, cp1_now_orders_stamps, cp1_hk, cp1_st, cp1_plan_terms, cp1_plan_low, cp1_plan_high, cp1_plan_bottom, cp1_plan_cost, cp1_plan_act, cp1_picker_deepest, cp1_picker_shallowest, cp1_picker_widest, cp1_picker_least, cp1_picker_next, cp1_rest, cp1_packed, cp2_raised, cp2_undos, cp2_eldest, cp2_w, cp2_kept, cp2_copy, cp2_near, cp2_isDone, cp2_lane, cp2_position, cp2_least, cp2_boxesOf, cp2_staying, cp2_planned, cp2_scale, cp3) = some z' ∧ R PL z' := by
  have hS := hR.1
  rw [RS_mk] at hS
  obtain ⟨a1, a2, a3, a4, a5, a6, a7, a8, a9, a10, a11, a12, a13, a14, a15⟩ := hS
  have a0 := a1
  obtain ⟨d0, d1, d2, d3, d4, d5, d6, d7, d8, d9, d10, d11, d12, d13, d14, d15, d16, d17, d18, d19, d20, d21, d22, d23, d24, d25, d26⟩ := a0
  obtain ⟨a', ns', hk', st', u', e', k', m1, m2, m3⟩ := remember_keep hR.1 hR.2.2.1
  have m1 : f_X7_remember cp1_acts cp1_nextSlot cp1_hk cp1_st cp1_now_today cp1_now_products cp1_now_itemCount cp1_now_items cp1_now_books cp1_now_terms cp1_now_shelves_lanes cp1_now_shelves_positions cp1_now_shelves_room cp1_now_shelves_gap cp1_now_shelves_places cp1_now_shelves_picked cp1_now_shelves_lot cp1_now_shelves_pieces cp1_now_shelves_mark cp1_now_shelves_byDistance cp1_now_lots_count cp1_now_lots_product cp1_now_lots_last cp1_now_lots_cost cp1_now_lots_state cp1_now_lots_byLast cp1_now_orders_count cp1_now_orders_gifts cp1_now_orders_customer cp1_now_orders_product cp1_now_orders_open cp1_now_orders_due cp1_now_orders_life cp1_now_orders_byDue cp1_now_orders_had cp1_now_orders_stamps = some (a', ns', hk', st') := m1
  by_cases c1 : 1 ≤ v1 ∧ v1 ≤ 6
  rotate_left
  · skip
    have h1 : f_W_newHouse v1 v2 v3 v4 cp1_acts cp1_nextSlot cp1_hk cp1_st cp1_now_today cp1_now_products cp1_now_itemCount cp1_now_items cp1_now_books cp1_now_terms cp1_now_shelves_lanes cp1_now_shelves_positions cp1_now_shelves_room cp1_now_shelves_gap cp1_now_shelves_places cp1_now_shelves_picked cp1_now_shelves_lot cp1_now_shelves_pieces cp1_now_shelves_mark cp1_now_shelves_byDistance cp1_now_lots_count cp1_now_lots_product cp1_now_lots_last cp1_now_lots_cost cp1_now_lots_state cp1_now_lots_byLast cp1_now_orders_count cp1_now_orders_gifts cp1_now_orders_customer cp1_now_orders_product cp1_now_orders_open cp1_now_orders_due cp1_now_orders_life cp1_now_orders_byDue cp1_now_orders_had cp1_now_orders_stamps cp3 = some (1, cp1_acts, cp1_nextSlot, cp1_hk, cp1_st, cp1_now_today, cp1_now_products, cp1_now_books, cp1_now_shelves_lanes, cp1_now_shelves_positions, cp1_now_shelves_room, cp1_now_shelves_gap, cp1_now_shelves_places, cp1_now_shelves_picked, cp1_now_shelves_lot, cp1_now_shelves_pieces, cp1_now_shelves_mark, cp1_now_shelves_byDistance, cp1_now_lots_count, cp1_now_orders_count, cp1_now_orders_gifts, cp3) := by
      unfold f_W_newHouse f_X7_newHouse
      simp only [n_range, bnd1, bnd21, Option.bind_some, mx, if_neg c1, ↓reduceIte]
    have h2 : f_Y8_newHouse v1 v2 v3 v4 cp2_raised cp2_undos cp2_eldest cp2_w cp2_kept cp2_near = some (0, 1, cp2_undos, cp2_eldest, cp2_w, cp2_kept, cp2_near) := by
      unfold f_Y8_newHouse
      simp only [n_in, bnd1, Option.bind_some, if_neg c1, if_neg one_ne, ↓reduceIte]
      unfold f_Y8_newHouse_J45 f_Y8_newHouse_J46
      simp only [bnd2, can_f0, Option.bind_some, ↓reduceIte]
    refine ⟨?wa1, ?pa1, ?qa1⟩
    case pa1 =>
      rw [fc_0, h1]
      simp only [bnd22, Option.bind_some]
      rw [h2]
      simp only [bnd1, bnd7, Option.bind_some, f_Y8_thrown]
      exact fin_1 (show ¬ (1 : Int32) = 0 by decide)
    case qa1 =>
      rw [R_mk]
      exact hR
  by_cases c2 : 1 ≤ v2 ∧ v2 ≤ 8
  rotate_left
  · skip
    have h1 : f_W_newHouse v1 v2 v3 v4 cp1_acts cp1_nextSlot cp1_hk cp1_st cp1_now_today cp1_now_products cp1_now_itemCount cp1_now_items cp1_now_books cp1_now_terms cp1_now_shelves_lanes cp1_now_shelves_positions cp1_now_shelves_room cp1_now_shelves_gap cp1_now_shelves_places cp1_now_shelves_picked cp1_now_shelves_lot cp1_now_shelves_pieces cp1_now_shelves_mark cp1_now_shelves_byDistance cp1_now_lots_count cp1_now_lots_product cp1_now_lots_last cp1_now_lots_cost cp1_now_lots_state cp1_now_lots_byLast cp1_now_orders_count cp1_now_orders_gifts cp1_now_orders_customer cp1_now_orders_product cp1_now_orders_open cp1_now_orders_due cp1_now_orders_life cp1_now_orders_byDue cp1_now_orders_had cp1_now_orders_stamps cp3 = some (1, cp1_acts, cp1_nextSlot, cp1_hk, cp1_st, cp1_now_today, cp1_now_products, cp1_now_books, cp1_now_shelves_lanes, cp1_now_shelves_positions, cp1_now_shelves_room, cp1_now_shelves_gap, cp1_now_shelves_places, cp1_now_shelves_picked, cp1_now_shelves_lot, cp1_now_shelves_pieces, cp1_now_shelves_mark, cp1_now_shelves_byDistance, cp1_now_lots_count, cp1_now_orders_count, cp1_now_orders_gifts, cp3) := by
      unfold f_W_newHouse f_X7_newHouse
      simp only [n_range, bnd1, bnd21, Option.bind_some, mx, if_pos c1, if_neg c2, ↓reduceIte]
    have h2 : f_Y8_newHouse v1 v2 v3 v4 cp2_raised cp2_undos cp2_eldest cp2_w cp2_kept cp2_near = some (0, 1, cp2_undos, cp2_eldest, cp2_w, cp2_kept, cp2_near) := by
      unfold f_Y8_newHouse
      simp only [n_in, bnd1, Option.bind_some, if_pos c1, if_neg c2, if_neg one_ne, ↓reduceIte]
      unfold f_Y8_newHouse_J45 f_Y8_newHouse_J46
      simp only [bnd2, can_f0, Option.bind_some, ↓reduceIte]
    refine ⟨?wa2, ?pa2, ?qa2⟩
    case pa2 =>
      rw [fc_0, h1]
      simp only [bnd22, Option.bind_some]
      rw [h2]
      simp only [bnd1, bnd7, Option.bind_some, f_Y8_thrown]
      exact fin_1 (show ¬ (1 : Int32) = 0 by decide)
    case qa2 =>
      rw [R_mk]
      exact hR
  by_cases c3 : 1 ≤ v3 ∧ v3 ≤ 20
  rotate_left
  · skip
    have h1 : f_W_newHouse v1 v2 v3 v4 cp1_acts cp1_nextSlot cp1_hk cp1_st cp1_now_today cp1_now_products cp1_now_itemCount cp1_now_items cp1_now_books cp1_now_terms cp1_now_shelves_lanes cp1_now_shelves_positions cp1_now_shelves_room cp1_now_shelves_gap cp1_now_shelves_places cp1_now_shelves_picked cp1_now_shelves_lot cp1_now_shelves_pieces cp1_now_shelves_mark cp1_now_shelves_byDistance cp1_now_lots_count cp1_now_lots_product cp1_now_lots_last cp1_now_lots_cost cp1_now_lots_state cp1_now_lots_byLast cp1_now_orders_count cp1_now_orders_gifts cp1_now_orders_customer cp1_now_orders_product cp1_now_orders_open cp1_now_orders_due cp1_now_orders_life cp1_now_orders_byDue cp1_now_orders_had cp1_now_orders_stamps cp3 = some (1, cp1_acts, cp1_nextSlot, cp1_hk, cp1_st, cp1_now_today, cp1_now_products, cp1_now_books, cp1_now_shelves_lanes, cp1_now_shelves_positions, cp1_now_shelves_room, cp1_now_shelves_gap, cp1_now_shelves_places, cp1_now_shelves_picked, cp1_now_shelves_lot, cp1_now_shelves_pieces, cp1_now_shelves_mark, cp1_now_shelves_byDistance, cp1_now_lots_count, cp1_now_orders_count, cp1_now_orders_gifts, cp3) := by
      unfold f_W_newHouse f_X7_newHouse
      simp only [n_range, bnd1, bnd21, Option.bind_some, mx, if_pos c1, if_pos c2, if_neg c3, ↓reduceIte]
    have h2 : f_Y8_newHouse v1 v2 v3 v4 cp2_raised cp2_undos cp2_eldest cp2_w cp2_kept cp2_near = some (0, 1, cp2_undos, cp2_eldest, cp2_w, cp2_kept, cp2_near) := by
      unfold f_Y8_newHouse
      simp only [n_in, bnd1, Option.bind_some, if_pos c1, if_pos c2, if_neg c3, if_neg one_ne, ↓reduceIte]
      unfold f_Y8_newHouse_J45 f_Y8_newHouse_J46
      simp only [bnd2, can_f0, Option.bind_some, ↓reduceIte]
    refine ⟨?wa3, ?pa3, ?qa3⟩
    case pa3 =>
      rw [fc_0, h1]
      simp only [bnd22, Option.bind_some]
      rw [h2]
      simp only [bnd1, bnd7, Option.bind_some, f_Y8_thrown]
      exact fin_1 (show ¬ (1 : Int32) = 0 by decide)
    case qa3 =>
      rw [R_mk]
      exact hR
  by_cases c4 : 1 ≤ v4 ∧ v4 ≤ 5
  rotate_left
  · skip
    have h1 : f_W_newHouse v1 v2 v3 v4 cp1_acts cp1_nextSlot cp1_hk cp1_st cp1_now_today cp1_now_products cp1_now_itemCount cp1_now_items cp1_now_books cp1_now_terms cp1_now_shelves_lanes cp1_now_shelves_positions cp1_now_shelves_room cp1_now_shelves_gap cp1_now_shelves_places cp1_now_shelves_picked cp1_now_shelves_lot cp1_now_shelves_pieces cp1_now_shelves_mark cp1_now_shelves_byDistance cp1_now_lots_count cp1_now_lots_product cp1_now_lots_last cp1_now_lots_cost cp1_now_lots_state cp1_now_lots_byLast cp1_now_orders_count cp1_now_orders_gifts cp1_now_orders_customer cp1_now_orders_product cp1_now_orders_open cp1_now_orders_due cp1_now_orders_life cp1_now_orders_byDue cp1_now_orders_had cp1_now_orders_stamps cp3 = some (1, cp1_acts, cp1_nextSlot, cp1_hk, cp1_st, cp1_now_today, cp1_now_products, cp1_now_books, cp1_now_shelves_lanes, cp1_now_shelves_positions, cp1_now_shelves_room, cp1_now_shelves_gap, cp1_now_shelves_places, cp1_now_shelves_picked, cp1_now_shelves_lot, cp1_now_shelves_pieces, cp1_now_shelves_mark, cp1_now_shelves_byDistance, cp1_now_lots_count, cp1_now_orders_count, cp1_now_orders_gifts, cp3) := by
      unfold f_W_newHouse f_X7_newHouse
      simp only [n_range, bnd1, bnd21, Option.bind_some, mx, if_pos c1, if_pos c2, if_pos c3, if_neg c4, ↓reduceIte]
    have h2 : f_Y8_newHouse v1 v2 v3 v4 cp2_raised cp2_undos cp2_eldest cp2_w cp2_kept cp2_near = some (0, 1, cp2_undos, cp2_eldest, cp2_w, cp2_kept, cp2_near) := by
      unfold f_Y8_newHouse
      simp only [n_in, bnd1, Option.bind_some, if_pos c1, if_pos c2, if_pos c3, if_neg c4, if_neg one_ne, ↓reduceIte]
      unfold f_Y8_newHouse_J45 f_Y8_newHouse_J46
      simp only [bnd2, can_f0, Option.bind_some, ↓reduceIte]
    refine ⟨?wa4, ?pa4, ?qa4⟩
    case pa4 =>
      rw [fc_0, h1]
      simp only [bnd22, Option.bind_some]
      rw [h2]
      simp only [bnd1, bnd7, Option.bind_some, f_Y8_thrown]
      exact fin_1 (show ¬ (1 : Int32) = 0 by decide)
    case qa4 =>
      rw [R_mk]
      exact hR
  · skip
    obtain ⟨p1, p2⟩ := prod_rng c1.1 c1.2 c2.1 c2.2
    have p0 : 0 ≤ v1 * v2 := by clear hR m1 m2 m3; grind
    obtain ⟨w', near', n1, n2, n3, n4⟩ := bg_ok (v3 := v3) (v4 := v4) (w := cp2_w) (near := cp2_near) c2.1 p0 p2
    obtain ⟨l', p', q', b', b1, b2, b3⟩ := bd_ok (v3 := v3) (y1 := cp1_now_shelves_lanes) (y2 := cp1_now_shelves_positions) (y3 := cp1_now_shelves_room) (y4 := cp1_now_shelves_gap) (y5 := cp1_now_shelves_places) (y6 := cp1_now_shelves_picked) (plot := cp1_now_shelves_lot) (ppc := cp1_now_shelves_pieces) (pmk := cp1_now_shelves_mark) (pbd := cp1_now_shelves_byDistance) c1.1 c1.2 c2.1 c2.2 c4.1 c4.2 p0 p2
    obtain ⟨bk, k1, k2⟩ := eb_loop (y1 := 0) (y2 := 0) (y3 := cp1_now_lots_count) (y4 := cp1_now_orders_count) (y5 := cp1_now_orders_gifts) (bks := cp1_now_books)
    have h1 : f_W_newHouse v1 v2 v3 v4 cp1_acts cp1_nextSlot cp1_hk cp1_st cp1_now_today cp1_now_products cp1_now_itemCount cp1_now_items cp1_now_books cp1_now_terms cp1_now_shelves_lanes cp1_now_shelves_positions cp1_now_shelves_room cp1_now_shelves_gap cp1_now_shelves_places cp1_now_shelves_picked cp1_now_shelves_lot cp1_now_shelves_pieces cp1_now_shelves_mark cp1_now_shelves_byDistance cp1_now_lots_count cp1_now_lots_product cp1_now_lots_last cp1_now_lots_cost cp1_now_lots_state cp1_now_lots_byLast cp1_now_orders_count cp1_now_orders_gifts cp1_now_orders_customer cp1_now_orders_product cp1_now_orders_open cp1_now_orders_due cp1_now_orders_life cp1_now_orders_byDue cp1_now_orders_had cp1_now_orders_stamps cp3 = some (0, a', ns', hk', st', 0, 0, bk, v1, v2, v3, v4, v1 * v2, 0, l', p', q', b', 0, 0, 0, vp_updL cp3 (0 : Int32).toNatClampNeg (v1 * v2).toInt64) := by
      unfold f_W_newHouse f_X7_newHouse
      simp only [n_range, bnd1, bnd4, bnd6, bnd10, bnd21, Option.bind_some, mx, if_pos c1, if_pos c2, if_pos c3, if_pos c4]
      rw [m1]
      simp only [Option.bind_some]
      unfold f_X6_empty f_X2_clear
      rw [k1]
      simp only [bnd1, bnd2, Option.bind_some]
      rw [b1]
      simp only [Option.bind_some]
      rw [gd_1 (by decide) (by decide)]
    have h2 : f_Y8_newHouse v1 v2 v3 v4 cp2_raised cp2_undos cp2_eldest cp2_w cp2_kept cp2_near = some (v1 * v2, 0, u', e', w', k', near') := by
      unfold f_Y8_newHouse
      simp only [n_in, bnd1, Option.bind_some, if_pos c1, if_pos c2, if_pos c3, if_pos c4, if_neg one_ne]
      unfold f_Y8_newHouse_J46
      simp only [bnd1, bnd2, bnd3, can_t, Option.bind_some, if_neg one_ne]
      rw [m2]
      simp only [Option.bind_some]
      rw [n1]
      simp only [Option.bind_some]
      have z1 : w' 1 = v1 := n2 1 (by decide) (by decide)
      have z2 : w' 2 = v2 := n2 2 (by decide) (by decide)
      rw [n_places, z1, z2]
      rfl
    refine ⟨?wd, ?pd, ?qd⟩
    case pd =>
      rw [fc_0, h1]
      simp only [bnd22, Option.bind_some]
      rw [h2]
      simp only [bnd1, bnd7, Option.bind_some, f_Y8_thrown]
      refine fin_0 ?_
      rfl
    case qd =>
      rw [R_mk]
      refine ⟨?_, QR_of b3 n4, m3, hR.2.2.2⟩
      exact RS_empty c1.1 c1.2 c2.1 c2.2 c3.1 c3.2 c4.1 c4.2 p1 p2 n2 k2 b2 b3 (QI_ag (n3.sub (by decide) (by decide)) a12) (QT_ag (n3.sub (by decide) (by decide)) a13)

