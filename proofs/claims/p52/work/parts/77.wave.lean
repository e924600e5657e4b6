/-! ===== the wave: all orders ===== -/
theorem s_orders {plc rom lcn prods ocn h0 : Int32} {pbd near lpr lla lco lst lbl ocu opr odu oli obd w0 dn : Nat → Int32} {x : X9} {g : Int32 × Int32 × X9 → Option ((Int32 × Int32 × X9) ⊕ (Int32 × X9))} (p1 : 1 ≤ plc) (p2 : plc ≤ 48) (r1 : 1 ≤ rom) (r2 : rom ≤ 20) (lc0 : 0 ≤ lcn) (lc : lcn ≤ 24) (c0 : 0 ≤ ocn) (oc : ocn ≤ 40)
    (hw : w0 1 * w0 2 = plc) (h6 : w0 6 = lcn) (h7 : w0 7 = ocn) (hL : QL lcn prods lpr lla lco lst w0) (hLs : QLs lcn lla lbl) (hOs : QLs ocn odu obd) (hR : QR plc pbd near) (q : WQ plc rom lcn prods ocn ocu opr odu oli w0 h0 x w0) (hdn : ∀ n : Int32, 0 ≤ n → n < ocn → ix dn n = 0)
    (he : ∀ n k x, ocn ≤ k → g (n, k, x) = some (.inr (n, x)))
    (hs : ∀ n k (x : X9), 0 ≤ k → k < ocn → g (n, k, x) = bnd10 (f_X7_serve (ix obd k) 1 plc x.1 x.2.1 x.2.2.1 x.2.2.2.1 pbd lcn lpr lla lst lbl ocn x.2.2.2.2.1 opr x.2.2.2.2.2.1 odu oli x.2.2.2.2.2.2.1 x.2.2.2.2.2.2.2.1 x.2.2.2.2.2.2.2.2) (fun r o1 o2 o3 o4 o5 o6 o7 o8 o9 => some (.inl (n + r, k + 1, o1, o2, o3, o4, o5, o6, o7, o8, o9)))) :
    ∃ r e d, f_Y8_nextOrder w0 dn = some r ∧ loop g fu (0, 0, x) = some e ∧ loop (fun z : Int32 × (Nat → Int32) × (Nat → Int32) => f_Y8_givesWave_L51 near z.1 z.2.1 z.2.2) fu (r, w0, dn) = some d ∧ WQ plc rom lcn prods ocn ocu opr odu oli w0 h0 e.2 d.1 ∧ ix d.1 10 = ix w0 10 + e.1 := by
  obtain ⟨r, n1, n2⟩ := n_nextOrder (dn := dn) h7 c0 oc q.2.2.1
  have st := lp_stut (f := g) (g := fun z : Int32 × (Nat → Int32) × (Nat → Int32) => f_Y8_givesWave_L51 near z.1 z.2.1 z.2.2)
    (fun s t => 0 ≤ s.2.1 ∧ s.2.1 ≤ ocn ∧ WQ plc rom lcn prods ocn ocu opr odu oli w0 h0 s.2.2 t.2.1 ∧ ix t.2.1 10 = ix w0 10 + s.1 ∧ NLs ocn (ix odu) (GO2 t.2.2 (X9.oop s.2.2)) t.1 ∧ (∀ j : Int32, 0 ≤ j → j < s.2.1 → ¬ GO2 t.2.2 (X9.oop s.2.2) (ix obd j)) ∧ ∀ j : Int32, s.2.1 ≤ j → j < ocn → ix t.2.2 (ix obd j) = 0)
    (fun e d => WQ plc rom lcn prods ocn ocu opr odu oli w0 h0 e.2 d.1 ∧ ix d.1 10 = ix w0 10 + e.1) (fun s => msr s.2.1 ocn) (by
    rintro ⟨n, k, x⟩ ⟨r', w', dn'⟩ ⟨g1, g2, g3, g4, g5, g6, g7⟩
    dsimp only at g1 g2 g3 g4 g5 g6 g7 ⊢
    by_cases hk : ocn ≤ k
    · right; right
      refine ⟨_, (w', dn'), he n k x hk, ?_, g3, g4⟩
      have : r' = -1 := by
        rcases g5 with ⟨z, -⟩ | ⟨z1, z2, z3, -⟩
        · exact z
        · exfalso
          obtain ⟨j, j0, j1, j2⟩ := hOs.2.2 r' z1 z2
          exact g6 j j0 (by grind) (by rw [j2]; exact z3)
      unfold f_Y8_givesWave_L51
      rw [if_pos this]
    · have hk' : k < ocn := by grind
      obtain ⟨O0, O1⟩ := hOs.1 k g1 hk'
      have hd0 := g7 k (by grind) hk'
      have hne : ∀ j : Int32, 0 ≤ j → j < ocn → j ≠ k → ix obd j ≠ ix obd k := by
        intro j j0 j1 jk z
        by_cases e : j < k
        · have := hOs.2.1 j k j0 e hk'
          rw [z] at this; grind
        · have := hOs.2.1 k j g1 (by grind) j1
          rw [z] at this; grind
      by_cases hop : 1 ≤ ix x.oop (ix obd k)
      · right; left
        have hG : GO2 dn' x.oop (ix obd k) := ⟨hd0, hop⟩
        have hrk : r' = ix obd k := by
          rcases g5 with ⟨-, z⟩ | ⟨z1, z2, z3, z4⟩
          · exact absurd hG (z _ O0 O1)
          · have y := z4 _ O0 O1 hG
            obtain ⟨j, j0, j1, j2⟩ := hOs.2.2 r' z1 z2
            by_cases e : j = k
            · rw [← j2, e]
            · by_cases e2 : j < k
              · exact absurd (by rw [j2]; exact z3) (g6 j j0 e2)
              · have := hOs.2.1 k j g1 (by grind) j1
                rw [j2] at this
                grind
        have g3' := g3
        obtain ⟨k1, k2, k3, k4, k5, k6, k7, k8, k9, k10, k11, k12, k13, k14⟩ := g3'
        have hwc : w' 1 * w' 2 = plc := by
          have e1 : w' 1 = w0 1 := k9 1 (by decide) (by decide)
          have e2 : w' 2 = w0 2 := k9 2 (by decide) (by decide)
          rw [e1, e2]; exact hw
        obtain ⟨rl, m1, m2⟩ := n_nextLot p1 p2 hwc ((k9 6 (by decide) (by decide)).trans h6) lc0 lc k1 (QL_ag lc (k12.sub (by decide) (by decide)) hL) O0 (show ix obd k < 40 by grind) (k3 _ O0 O1).2.2.2.1 (k3 _ O0 O1).2.2.2.2.2.2.2.2.2.2.2.2.1
        obtain ⟨e, w2, s1, s2, s3, s4, s5, s6⟩ := s_serve (near := near) (dn := upd dn' r'.toNatClampNeg (vp_nar .boolean 1)) p1 p2 r1 r2 lc0 lc c0 oc hw h6 hL hLs hR g3 O0 O1 hop m2
        have h7' : w2 7 = ocn := (s3.2.2.2.2.2.2.2.2.1 7 (by decide) (by decide)).trans h7
        obtain ⟨r2', t1, t2⟩ := n_nextOrder (dn := upd dn' r'.toNatClampNeg (vp_nar .boolean 1)) h7' c0 oc s3.2.2.1
        refine ⟨(n + e.1, k + 1, e.2), (r2', w2, upd dn' r'.toNatClampNeg (vp_nar .boolean 1)), ?_, ?_, ⟨by dsimp only; grind, by dsimp only; grind, s3, ?_, t2, ?_, ?_⟩, msr_lt hk'⟩
        · rw [hs n k x g1 hk', serve_eq oc O0 O1]
          show bnd10 (loop _ fu (0, 0, x)) _ = _
          rw [s1]; rfl
        · unfold f_Y8_givesWave_L51
          rw [if_neg (by rw [hrk]; grind), gd_40 (by rw [hrk]; exact O0) (by rw [hrk]; grind)]
          rw [← hrk] at m1 s2
          rw [m1]
          simp only [bnd1, Option.bind_some]
          rw [s2]
          simp only [Option.bind_some]
          rw [t1]; rfl
        · dsimp only; rw [s4, g4]; grind
        · intro j j0 j1
          dsimp only at j1 ⊢
          have b := hOs.1 j j0 (by grind)
          have u : ix (upd dn' r'.toNatClampNeg (vp_nar .boolean 1)) (ix obd j) = if ix obd j = r' then vp_nar .boolean 1 else ix dn' (ix obd j) := upd_at (by rw [hrk]; exact O0) b.1
          rintro ⟨z1, z2⟩
          rw [u] at z1
          by_cases e2 : j = k
          · rw [e2, if_pos hrk.symm] at z1
            exact absurd z1 (by decide)
          · have h3 := hne j j0 (by grind) e2
            rw [if_neg (by rw [hrk]; exact h3)] at z1
            rw [s6 _ b.1 h3] at z2
            exact g6 j j0 (by grind) ⟨z1, z2⟩
        · intro j j0 j1
          dsimp only at j0 ⊢
          have b := hOs.1 j (by grind) j1
          have u : ix (upd dn' r'.toNatClampNeg (vp_nar .boolean 1)) (ix obd j) = if ix obd j = r' then vp_nar .boolean 1 else ix dn' (ix obd j) := upd_at (by rw [hrk]; exact O0) b.1
          rw [u, if_neg (by rw [hrk]; exact hne j (by grind) j1 (by grind))]
          exact g7 j (by grind) j1
      · left
        refine ⟨(n, k + 1, x), ?_, ⟨by dsimp only; grind, by dsimp only; grind, g3, g4, g5, ?_, ?_⟩, msr_lt hk'⟩
        · rw [hs n k x g1 hk', serve_eq oc O0 O1]
          obtain ⟨pk, a, b, c, gif, oop, oha, ost, rest⟩ := x
          dsimp only
          have hz : ix oop (ix obd k) ≤ 0 := by
            have : ¬ 1 ≤ ix oop (ix obd k) := hop
            grind
          have := sv_end (o := ix obd k) (fl := 1) (op := ix oop (ix obd k)) (plc := plc) (lcn := lcn) (ocn := ocn) (n4 := 0) (n5 := 0) (gif := gif) (pk := pk) (pbd := pbd) (lpr := lpr) (lla := lla) (lst := lst) (lbl := lbl) (opr := opr) (odu := odu) (oli := oli) (a := a) (b := b) (c := c) (oop := oop) (oha := oha) (ost := ost) (rest := rest) (Or.inr hz)
          have h2 : loop (sv (ix obd k) 1 (ix oop (ix obd k)) plc pbd lcn lpr lla lst lbl ocn opr odu oli) fu (0, 0, pk, a, b, c, gif, oop, oha, ost, rest) = some (0, pk, a, b, c, gif, oop, oha, ost, rest) := by
            show loop _ (99999 + 1) _ = _
            simp only [loop, this]
          rw [h2]
          simp only [bnd10, Option.bind_some, Int32.add_zero]
        · intro j j0 j1
          dsimp only at j1 ⊢
          by_cases e2 : j = k
          · rw [e2]; exact fun z => hop z.2
          · exact g6 j j0 (by grind)
        · intro j j0 j1
          exact g7 j (by dsimp only at j0; grind) j1) fu fu (0, 0, x) (r, w0, dn) ⟨by dsimp only; decide, c0, q, by dsimp only; rw [Int32.add_zero], n2, fun j j0 j1 => absurd j1 (by dsimp only; grind), fun j j0 j1 => by
      have b := hOs.1 j (by dsimp only at j0; exact j0) j1
      exact hdn _ b.1 b.2⟩ (msr_fu (by dsimp only; decide) (by grind)) (Nat.le_refl _)
  obtain ⟨e, d, w1, w2, w3, w4⟩ := st
  exact ⟨r, e, d, n1, w1, w2, w3, w4⟩
theorem zp_loop {near dn w : Nat → Int32} : ∃ w', loop (fun z : Int32 × (Nat → Int32) => f_Y8_givesWave_L2 near dn z.1 z.2) fu (0, w) = some w' ∧ ∀ i : Int32, 0 ≤ i → i < 2450 → ix w' i = if 159 ≤ i ∧ i < 207 then 0 else ix w i := by
  refine lp_one (f := fun z : Int32 × (Nat → Int32) => f_Y8_givesWave_L2 near dn z.1 z.2) (fun s => 0 ≤ s.1 ∧ s.1 ≤ 48 ∧ ∀ i : Int32, 0 ≤ i → i < 2450 → ix s.2 i = if 159 ≤ i ∧ i < 159 + s.1 then 0 else ix w i) _ (fun z => msr z.1 48) ?_ fu (0, w) ⟨by dsimp only; decide, by dsimp only; decide, fun i i0 i1 => by rw [if_neg (by dsimp only; grind)]⟩ (msr_fu (by dsimp only; decide) (by decide))
  rintro ⟨n, f⟩ ⟨g1, g2, g3⟩
  dsimp only at g1 g2 g3 ⊢
  unfold f_Y8_givesWave_L2
  by_cases hn : 48 ≤ n
  · have : n = 48 := by grind
    subst this
    exact Or.inr ⟨f, by rw [if_pos hn], g3⟩
  · left
    refine ⟨(n + 1, upd f (159 + n).toNatClampNeg 0), by rw [if_neg hn, gd_2450 (by grind) (by grind)], ⟨by dsimp only; grind, by dsimp only; grind, ?_⟩, msr_lt (by grind)⟩
    intro i i0 i1
    dsimp only
    have u : ix (upd f (159 + n).toNatClampNeg 0) i = if i = 159 + n then 0 else ix f i := upd_at (by grind) i0
    rw [u]
    by_cases h : i = 159 + n
    · rw [if_pos h, if_pos (by grind)]
    · rw [if_neg h, g3 i i0 i1]
      by_cases h2 : 159 ≤ i ∧ i < 159 + n
      · rw [if_pos h2, if_pos (by grind)]
      · rw [if_neg h2, if_neg (by grind)]
theorem dn_loop {near dn w : Nat → Int32} : ∃ d', loop (fun z : Int32 × (Nat → Int32) => f_Y8_givesWave_L27 w near z.1 z.2) fu (0, dn) = some d' ∧ ∀ i : Int32, 0 ≤ i → i < 40 → ix d' i = 0 := by
  refine lp_one (f := fun z : Int32 × (Nat → Int32) => f_Y8_givesWave_L27 w near z.1 z.2) (fun s => 0 ≤ s.1 ∧ s.1 ≤ 40 ∧ ∀ i : Int32, 0 ≤ i → i < s.1 → ix s.2 i = 0) _ (fun z => msr z.1 40) ?_ fu (0, dn) ⟨by dsimp only; decide, by dsimp only; decide, fun i i0 i1 => absurd i1 (by dsimp only; grind)⟩ (msr_fu (by dsimp only; decide) (by decide))
  rintro ⟨n, f⟩ ⟨g1, g2, g3⟩
  dsimp only at g1 g2 g3 ⊢
  unfold f_Y8_givesWave_L27
  by_cases hn : 40 ≤ n
  · have : n = 40 := by grind
    subst this
    exact Or.inr ⟨f, by rw [if_pos hn], g3⟩
  · left
    refine ⟨(n + 1, upd f n.toNatClampNeg (vp_nar .boolean 0)), by rw [if_neg hn, gd_40 g1 (by grind)], ⟨by dsimp only; grind, by dsimp only; grind, ?_⟩, msr_lt (by grind)⟩
    intro i i0 i1
    dsimp only at i1 ⊢
    have u : ix (upd f n.toNatClampNeg (vp_nar .boolean 0)) i = if i = n then vp_nar .boolean 0 else ix f i := upd_at g1 i0
    rw [u]
    by_cases h : i = n
    · rw [if_pos h]; decide
    · rw [if_neg h]; exact g3 i i0 (by grind)
/-- the whole wave, both sides -/
theorem s_wave {tod prods lan pos rom gp plc lcn ocn gif : Int32} {plot ppc pmk pbd lpr lla lco lst lbl ocu opr oop odu oli obd oha ost rest near dn w : Nat → Int32} {g : Int32 × Int32 × X9 → Option ((Int32 × Int32 × X9) ⊕ (Int32 × X9))}
    (hD : QD tod prods lan pos rom gp plc lcn ocn w) (hP : QP plc rom lcn plot ppc pmk w) (hL : QL lcn prods lpr lla lco lst w) (hLs : QLs lcn lla lbl) (hO : QO ocn prods ocu opr oop odu oli w) (hOs : QLs ocn odu obd) (hH : QH ocn lcn oha w) (hG : QG ocn gif oha ost w) (hS : QS ocn gif oop oha) (hR : QR plc pbd near) (hrest : ∀ l : Int32, 0 ≤ l → l < lcn → ix rest l = pof plc plot ppc l)
    (he : ∀ n k x, ocn ≤ k → g (n, k, x) = some (.inr (n, x)))
    (hs : ∀ n k (x : X9), 0 ≤ k → k < ocn → g (n, k, x) = bnd10 (f_X7_serve (ix obd k) 1 plc x.1 x.2.1 x.2.2.1 x.2.2.2.1 pbd lcn lpr lla lst lbl ocn x.2.2.2.2.1 opr x.2.2.2.2.2.1 odu oli x.2.2.2.2.2.2.1 x.2.2.2.2.2.2.2.1 x.2.2.2.2.2.2.2.2) (fun r o1 o2 o3 o4 o5 o6 o7 o8 o9 => some (.inl (n + r, k + 1, o1, o2, o3, o4, o5, o6, o7, o8, o9)))) :
    ∃ e w' dn', loop g fu (0, 0, 0, plot, ppc, pmk, gif, oop, oha, ost, rest) = some e ∧ f_Y8_givesWave w near dn = some (w', dn') ∧ WQ plc rom lcn prods ocn ocu opr odu oli w (isum (ix ppc) plc.toNatClampNeg) e.2 w' ∧ ix w' 10 = ix w 10 + e.1 := by
  obtain ⟨d0, d1, d2, d3, d4, d5, d6, d7, d8, d9, d10, d11, d12, d13, d14, d15, d16, d17, d18, d19, d20, d21, d22, d23, d24, d25, d26⟩ := hD
  obtain ⟨w1, a1, a2⟩ := zp_loop (near := near) (dn := dn) (w := w)
  obtain ⟨dn1, b1, b2⟩ := dn_loop (near := near) (dn := dn) (w := w1)
  have hag : ∀ A B : Int32, 0 ≤ A → B ≤ 2450 → (B ≤ 159 ∨ 207 ≤ A) → AG A B w w1 := fun A B hA hB h i i0 i1 => by
    rw [a2 i (by grind) (by grind), if_neg (by grind)]
  have e0 : ∀ k : Nat, ∀ K : Int32, K.toNatClampNeg = k → 0 ≤ K → K < 159 → w1 k = w k := fun k K hk h0 h1 => by
    have := hag 0 159 (by decide) (by decide) (by decide) K h0 h1
    unfold ix at this
    rwa [hk] at this
  have hK : QK plc 0 w1 := by
    refine ⟨by decide, fun n n0 n1 => Or.inl ⟨?_, by rw [Int64.zero_shiftRight]; decide⟩⟩
    rw [a2 _ (by grind) (by grind), if_pos (by grind)]
  have hw1 : w1 1 * w1 2 = plc := by rw [e0 1 1 rfl (by decide) (by decide), e0 2 2 rfl (by decide) (by decide), d3, d6, d15]
  have q : WQ plc rom lcn prods ocn ocu opr odu oli w1 (isum (ix ppc) plc.toNatClampNeg) (0, plot, ppc, pmk, gif, oop, oha, ost, rest) w1 := by
    refine ⟨QP_ag d17 (hag _ _ (by decide) (by decide) (by decide)) hP, hK, QO_ag d26 (hag _ _ (by decide) (by decide) (by decide)) hO, QH_ag d26 (hag _ _ (by decide) (by decide) (by decide)) hH, QG_ag d25 d26 (hag _ _ (by decide) (by decide) (by decide)) (hag _ _ (by decide) (by decide) (by decide)) hG, hS, hrest, ?_, AG.rf, AG.rf, AG.rf, AG.rf, AG.rf, AG.rf⟩
    rw [Int32.sub_self, Int32.sub_zero]
  obtain ⟨r, e, d, m1, m2, m3, m4, m5⟩ := s_orders (g := g) (near := near) (dn := dn1) d16 d17 d10 d11 d22 d23 d25 d26 hw1 ((e0 6 6 rfl (by decide) (by decide)).trans d21) ((e0 7 7 rfl (by decide) (by decide)).trans d24) (QL_ag d23 (hag _ _ (by decide) (by decide) (by decide)) hL) hLs hOs hR q (fun n n0 n1 => b2 n n0 (by grind)) he hs
  have e10 : ix w1 10 = ix w 10 := hag 0 159 (by decide) (by decide) (by decide) 10 (by decide) (by decide)
  refine ⟨e, d.1, d.2, m2, ?_, ?_, by rw [m5, e10]⟩
  · unfold f_Y8_givesWave
    rw [a1]
    simp only [bnd1, Option.bind_some]
    rw [b1]
    simp only [Option.bind_some]
    rw [m1]
    simp only [Option.bind_some]
    rw [m3]; rfl
  · obtain ⟨k1, k2, k3, k4, k5, k6, k7, k8, k9, k10, k11, k12, k13, k14⟩ := m4
    rw [e10] at k8
    exact ⟨k1, k2, k3, k4, k5, k6, k7, k8, (hag _ _ (by decide) (by decide) (by decide)).tr k9, (hag _ _ (by decide) (by decide) (by decide)).tr k10, (hag _ _ (by decide) (by decide) (by decide)).tr k11, (hag _ _ (by decide) (by decide) (by decide)).tr k12, (hag _ _ (by decide) (by decide) (by decide)).tr k13, (hag _ _ (by decide) (by decide) (by decide)).tr k14⟩
theorem count_pof {plc rom lcn : Int32} {plot ppc pmk w : Nat → Int32} (hw : w 1 * w 2 = plc) (h1 : 1 ≤ plc) (h2 : plc ≤ 48) (hl : lcn ≤ 24) (hP : QP plc rom lcn plot ppc pmk w) (rest : Nat → Int32) : ∃ rest', f_X5_countLots plc plot ppc rest = some rest' ∧ ∀ l : Int32, 0 ≤ l → l < 24 → ix rest' l = pof plc plot ppc l := by
  obtain ⟨r', c1, c2⟩ := s_count hw h1 h2 hl hP rest
  refine ⟨r', c1, fun l l0 l1 => ?_⟩
  have a := c2 l l0 l1
  obtain ⟨e, e1, e2⟩ := s_onHand (l := l) hw h1 h2 hP l0
  rw [pof_sum (by grind) h2] at e1
  rw [e2] at a
  rw [← Option.some.inj a, ← Option.some.inj e1]

set_option maxRecDepth 4000 in
theorem cs_26 (PL : (Nat → Int32) → (Nat → Int32) → (Nat → Int32) → (Nat → Int64) → (Nat → Int64) → (Nat → Int32) → Prop) (cp1_acts : Int32) (cp1_nextSlot : Int32) (cp1_now_today : Int32) (cp1_now_products : Int32) (cp1_now_itemCount : Int32) (cp1_now_items : Nat → Int32) (cp1_now_books : Nat → Int32) (cp1_now_terms : Nat → Int32) (cp1_now_shelves_lanes : Int32) (cp1_now_shelves_positions : Int32) (cp1_now_shelves_room : Int32) (cp1_now_shelves_gap : Int32) (cp1_now_shelves_places : Int32) (cp1_now_shelves_picked : Int64) (cp1_now_shelves_lot : Nat → Int32) (cp1_now_shelves_pieces : Nat → Int32) (cp1_now_shelves_mark : Nat → Int32) (cp1_now_shelves_byDistance : Nat → Int32) (cp1_now_lots_count : Int32) (cp1_now_lots_product : Nat → Int32) (cp1_now_lots_last : Nat → Int32) (cp1_now_lots_cost : Nat → Int32) (cp1_now_lots_state : Nat → Int32) (cp1_now_lots_byLast : Nat → Int32) (cp1_now_orders_count : Int32) (cp1_now_orders_gifts : Int32) (cp1_now_orders_customer : Nat → Int32) (cp1_now_orders_product : Nat → Int32) (cp1_now_orders_open : Nat → Int32) (cp1_now_orders_due : Nat → Int32) (cp1_now_orders_life : Nat → Int32) (cp1_now_orders_byDue : Nat → Int32) (cp1_now_orders_had : Nat → Int32) (cp1_now_orders_stamps : Nat → Int32) (cp1_hk : Nat) (cp1_st : Nat → StT) (cp1_plan_terms : Nat → Int32) (cp1_plan_low : Nat → Int32) (cp1_plan_high : Nat → Int32) (cp1_plan_bottom : Nat → Int64) (cp1_plan_cost : Nat → Int64) (cp1_plan_act : Nat → Int32) (cp1_picker_deepest : Int32) (cp1_picker_shallowest : Int32) (cp1_picker_widest : Int32) (cp1_picker_least : Nat → Int32) (cp1_picker_next : Nat → Int32) (cp1_rest : Nat → Int32) (cp1_packed : Nat → Int32) (cp2_raised : Int32) (cp2_undos : Int32) (cp2_eldest : Int32) (cp2_w : Nat → Int32) (cp2_kept : Nat → Int32) (cp2_copy : Nat → Int32) (cp2_near : Nat → Int32) (cp2_isDone : Nat → Int32) (cp2_lane : Nat → Int32) (cp2_position : Nat → Int32) (cp2_least : Nat → Int32) (cp2_boxesOf : Nat → Int32) (cp2_staying : Nat → Int64) (cp2_planned : Nat → Int64) (cp2_scale : Nat → Int64) (cp3 : Nat → Int64) (v1 v2 v3 v4 v5 : Int32) (hR : RC PL (cp1_now_today, cp1_now_products, cp1_now_itemCount, cp1_now_items, cp1_now_books, cp1_now_terms, cp1_now_shelves_lanes, cp1_now_shelves_positions, cp1_now_shelves_room, cp1_now_shelves_gap, cp1_now_shelves_places, cp1_now_shelves_picked, cp1_now_shelves_lot, cp1_now_shelves_pieces, cp1_now_shelves_mark, cp1_now_shelves_byDistance, cp1_now_lots_count, cp1_now_lots_product, cp1_now_lots_last, cp1_now_lots_cost, cp1_now_lots_state, cp1_now_lots_byLast, cp1_now_orders_count, cp1_now_orders_gifts, cp1_now_orders_customer, cp1_now_orders_product, cp1_now_orders_open, cp1_now_orders_due, cp1_now_orders_life, cp1_now_orders_byDue, cp1_now_orders_had, cp1_now_orders_stamps) cp2_w cp2_near cp1_acts cp1_nextSlot cp1_hk cp1_st cp2_undos cp2_eldest cp2_kept cp1_plan_terms cp1_plan_low cp1_plan_high cp1_plan_bottom cp1_plan_cost cp1_plan_act) : ∃ z', f_c26 v1 v2 v3 v4 v5 (cp1_acts, cp1_nextSlot, cp1_now_today, cp1_now_products, cp1_now_itemCount, cp1_now_items, cp1_now_books, cp1_now_terms, cp1_now_shelves_lanes, cp1_now_shelves_positions, cp1_now_shelves_room, cp1_now_shelves_gap, cp1_now_shelves_places, cp1_now_shelves_picked, cp1_now_shelves_lot, cp1_now_shelves_pieces, cp1_now_shelves_mark, cp1_now_shelves_byDistance, cp1_now_lots_count, cp1_now_lots_product, cp1_now_lots_last, cp1_now_lots_cost, cp1_now_lots_state, cp1_now_lots_byLast, cp1_now_orders_count, cp1_now_orders_gifts, cp1_now_orders_customer, cp1_now_orders_product, cp1_now_orders_open, cp1_now_orders_due, cp1_now_orders_life, cp1_now_orders_byDue, cp1_now_orders_had, cp1_now_orders_stamps, cp1_hk, cp1_st, cp1_plan_terms, cp1_plan_low, cp1_plan_high, cp1_plan_bottom, cp1_plan_cost, cp1_plan_act, cp1_picker_deepest, cp1_picker_shallowest, cp1_picker_widest, cp1_picker_least, cp1_picker_next, cp1_rest, cp1_packed, cp2_raised, cp2_undos, cp2_eldest, cp2_w, cp2_kept, cp2_copy, cp2_near, cp2_isDone, cp2_lane, cp2_position, cp2_least, cp2_boxesOf, cp2_staying, cp2_planned, cp2_scale, cp3) = some z' ∧ R PL z' := by
  have hS := hR.1
  rw [RS_mk] at hS
  obtain ⟨a1, a2, a3, a4, a5, a6, a7, a8, a9, a10, a11, a12, a13, a14, a15⟩ := hS
  have a0 := a1
  obtain ⟨d0, d1, d2, d3, d4, d5, d6, d7, d8, d9, d10, d11, d12, d13, d14, d15, d16, d17, d18, d19, d20, d21, d22, d23, d24, d25, d26⟩ := a0
  obtain ⟨a', ns', hk', st', u', e', kp', m1, m2, m3⟩ := remember_keep hR.1 hR.2.2.1
  have m1 : f_X7_remember cp1_acts cp1_nextSlot cp1_hk cp1_st cp1_now_today cp1_now_products cp1_now_itemCount cp1_now_items cp1_now_books cp1_now_terms cp1_now_shelves_lanes cp1_now_shelves_positions cp1_now_shelves_room cp1_now_shelves_gap cp1_now_shelves_places cp1_now_shelves_picked cp1_now_shelves_lot cp1_now_shelves_pieces cp1_now_shelves_mark cp1_now_shelves_byDistance cp1_now_lots_count cp1_now_lots_product cp1_now_lots_last cp1_now_lots_cost cp1_now_lots_state cp1_now_lots_byLast cp1_now_orders_count cp1_now_orders_gifts cp1_now_orders_customer cp1_now_orders_product cp1_now_orders_open cp1_now_orders_due cp1_now_orders_life cp1_now_orders_byDue cp1_now_orders_had cp1_now_orders_stamps = some (a', ns', hk', st') := m1
  have hw : cp2_w 1 * cp2_w 2 = cp1_now_shelves_places := by rw [d3, d6, d15]
  have p0 : 0 ≤ cp1_now_shelves_places := by clear hR m1 m2 m3; grind
  obtain ⟨rest', c1, c2⟩ := count_pof hw d16 d17 d23 a3 cp1_rest
  obtain ⟨e, w', dn', s1, s2, s3, s4⟩ := s_wave (near := cp2_near) (dn := cp2_isDone) (rest := rest') (g := fun z : Int32 × Int32 × X9 => f_X7_wave_L33 a' ns' hk' st' cp1_now_today cp1_now_products cp1_now_itemCount cp1_now_items cp1_now_books cp1_now_terms cp1_now_shelves_lanes cp1_now_shelves_positions cp1_now_shelves_room cp1_now_shelves_gap cp1_now_shelves_places cp1_now_shelves_byDistance cp1_now_lots_count cp1_now_lots_product cp1_now_lots_last cp1_now_lots_cost cp1_now_lots_state cp1_now_lots_byLast cp1_now_orders_count cp1_now_orders_customer cp1_now_orders_product cp1_now_orders_due cp1_now_orders_life cp1_now_orders_byDue z.1 z.2.1 z.2.2.1 z.2.2.2.1 z.2.2.2.2.1 z.2.2.2.2.2.1 z.2.2.2.2.2.2.1 z.2.2.2.2.2.2.2.1 z.2.2.2.2.2.2.2.2.1 z.2.2.2.2.2.2.2.2.2.1 z.2.2.2.2.2.2.2.2.2.2) a1 a3 a5 a6 a7 a8 a9 a10 a11 hR.2.1 (fun l l0 l1 => c2 l l0 (by clear hR m1 m2 m3; grind)) (fun n k x hk => by
    dsimp only
    unfold f_X7_wave_L33
    rw [if_pos hk]) (fun n k x k0 k1 => by
    dsimp only
    have k2 : ¬ cp1_now_orders_count ≤ k := by clear hR m1 m2 m3; grind
    have k3 : k < 40 := by clear hR m1 m2 m3; grind
    unfold f_X7_wave_L33
    rw [if_neg k2, gd_40 k0 k3])
  obtain ⟨g, pk, l', p', k', gf, op', ha', os', rs'⟩ := e
  dsimp only at s1 s3 s4
  obtain ⟨k1, k2, k3, k4, k5, k6, k7, k8, k9, k10, k11, k12, k13, k14⟩ := s3
  dsimp only at k1 k2 k3 k4 k5 k6 k7 k8
  obtain ⟨hd, g1, g2⟩ := a14
  have g3 : hd = isum (ix cp1_now_shelves_pieces) cp1_now_shelves_places.toNatClampNeg := by
    rw [hand_sum p0 d17] at g1; exact (Option.some.inj g1).symm
  have s4' : w' (10 : Int32).toNatClampNeg = cp2_w (10 : Int32).toNatClampNeg + g := s4
  have k8' : isum (ix p') cp1_now_shelves_places.toNatClampNeg = hd - g := by
    rw [k8, s4, g3]
    have z : ∀ a b c : Int32, a - (b + c - b) = a - c := fun a b c => by grind
    exact z _ _ _
  · skip
    have h1 : f_X7_wave cp1_acts cp1_nextSlot cp1_hk cp1_st cp1_now_today cp1_now_products cp1_now_itemCount cp1_now_items cp1_now_books cp1_now_terms cp1_now_shelves_lanes cp1_now_shelves_positions cp1_now_shelves_room cp1_now_shelves_gap cp1_now_shelves_places cp1_now_shelves_picked cp1_now_shelves_lot cp1_now_shelves_pieces cp1_now_shelves_mark cp1_now_shelves_byDistance cp1_now_lots_count cp1_now_lots_product cp1_now_lots_last cp1_now_lots_cost cp1_now_lots_state cp1_now_lots_byLast cp1_now_orders_count cp1_now_orders_gifts cp1_now_orders_customer cp1_now_orders_product cp1_now_orders_open cp1_now_orders_due cp1_now_orders_life cp1_now_orders_byDue cp1_now_orders_had cp1_now_orders_stamps cp1_rest = some (g, a', ns', hk', st', (upd cp1_now_books (1 : Int32).toNatClampNeg (cp1_now_books 1 + g)), pk, l', p', k', gf, op', ha', os', rs') := by
      unfold f_X7_wave
      rw [m1]
      simp only [bnd1, bnd4, bnd10, Option.bind_some]
      rw [c1]
      simp only [Option.bind_some]
      rw [s1]
      simp only [Option.bind_some]
      rw [gd_6 (by decide) (by decide), gd_6 (by decide) (by decide)]
      rfl
    have h2 : f_Y8_wave cp2_raised cp2_undos cp2_eldest cp2_w cp2_kept cp2_near cp2_isDone = some (g, 0, u', e', w', kp', dn') := by
      unfold f_Y8_wave
      rw [m2]
      simp only [bnd2, bnd3, Option.bind_some]
      rw [gd_2450 (by decide) (by decide), s2]
      simp only [Option.bind_some]
      rw [gd_2450 (by decide) (by decide), s4']
      have z : ∀ a b : Int32, a + b - a = b := fun a b => by grind
      rw [z]
    have q2b : QB (upd cp1_now_books (1 : Int32).toNatClampNeg (cp1_now_books 1 + g)) w' := by
      intro n n1 n2
      by_cases hn : n = 1
      · subst hn
        show ix w' 10 = cp1_now_books 1 + g
        rw [s4, show ix cp2_w 10 = cp1_now_books 1 from a2 1 (by decide) (by decide)]
      · have z1 : ix w' (9 + n) = ix cp2_w (9 + n) := by
          by_cases hm : n = 0
          · subst hm; exact k10 9 (by decide) (by decide)
          · exact k11 _ (by clear s4 s4' k8 g3 k8' s1 s2 c2; clear hR m1 m2 m3; grind) (by clear s4 s4' k8 g3 k8' s1 s2 c2; clear hR m1 m2 m3; grind)
        rw [z1, a2 n n1 n2]
        show _ = upd cp1_now_books (1 : Int32).toNatClampNeg (cp1_now_books 1 + g) n.toNatClampNeg
        rw [upd_ne (by decide) n1 hn]
    have q14 : QA cp1_now_shelves_places (upd cp1_now_books (1 : Int32).toNatClampNeg (cp1_now_books 1 + g)) p' := by
      refine ⟨hd - g, by rw [hand_sum p0 d17, k8'], ?_⟩
      show (cp1_now_books 0 + cp1_now_books 2 + cp1_now_books 5) - ((cp1_now_books 1 + g) + cp1_now_books 3 + cp1_now_books 4) = hd - g
      rw [← g2]
      have z : ∀ a b c d e f h : Int32, (a + b + c) - ((d + h) + e + f) = (a + b + c) - (d + e + f) - h := fun a b c d e f h => by grind
      exact z _ _ _ _ _ _ _
    refine ⟨?wd, ?pd, ?qd⟩
    case pd =>
      rw [fc_26, h1]
      simp only [bnd15, Option.bind_some]
      rw [h2]
      simp only [bnd7, Option.bind_some, ↓reduceIte]
      rfl
    case qd =>
      rw [R_mk]
      refine ⟨?_, hR.2.1, m3, hR.2.2.2⟩
      rw [RS_mk]
      exact ⟨QD_ag k9 a1, q2b, k1, k2, QL_ag d23 (k12.sub (by decide) (by decide)) a5, a6, k3, a8, k4, k5, k6, QI_ag (k14.sub (by decide) (by decide)) a12, QT_ag (k14.sub (by decide) (by decide)) a13, q14, a15⟩

