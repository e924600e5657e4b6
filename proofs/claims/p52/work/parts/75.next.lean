/-! ===== the wave: what comes next ===== -/
/-- the least of those that are G, by key and number; -1 where there is none -/
def NLs (N : Int32) (key : Int32 → Int32) (G : Int32 → Prop) (r : Int32) : Prop := (r = -1 ∧ ∀ l : Int32, 0 ≤ l → l < N → ¬ G l) ∨ (0 ≤ r ∧ r < N ∧ G r ∧ ∀ l : Int32, 0 ≤ l → l < N → G l → key r < key l ∨ (key r = key l ∧ r ≤ l))
theorem min_loop {N : Int32} {key : Int32 → Int32} {G : Int32 → Prop} {g : Int32 × Int32 → Option ((Int32 × Int32) ⊕ Int32)} (c0 : 0 ≤ N) (c1 : N < 90000)
    (he : ∀ b n, N ≤ n → g (b, n) = some (.inr b))
    (hG : ∀ b n, 0 ≤ n → n < N → (b = -1 ∨ (0 ≤ b ∧ b < N)) → G n → g (b, n) = some (.inl (if b = -1 then n else if key b ≤ key n then b else n, n + 1)))
    (hN : ∀ b n, 0 ≤ n → n < N → ¬ G n → g (b, n) = some (.inl (b, n + 1))) : ∃ r, loop g fu (-1, 0) = some r ∧ NLs N key G r := by
  refine lp_one (f := g) (fun s => 0 ≤ s.2 ∧ s.2 ≤ N ∧ NLs s.2 key G s.1) _ (fun s => msr s.2 N) ?_ fu _ ⟨by decide, c0, Or.inl ⟨rfl, fun l l0 l1 => absurd l1 (by dsimp only; grind)⟩⟩ (msr_fu (by decide) c1)
  rintro ⟨b, n⟩ ⟨g1, g2, g3⟩
  dsimp only at g1 g2 g3 ⊢
  by_cases hn : N ≤ n
  · have : n = N := by grind
    subst this
    exact Or.inr ⟨b, he b n hn, g3⟩
  · left
    have hn' : n < N := by grind
    by_cases hh : G n
    · refine ⟨_, hG b n g1 hn' ?_ hh, ⟨by dsimp only; grind, by dsimp only; grind, ?_⟩, msr_lt hn'⟩
      · rcases g3 with ⟨z, -⟩ | ⟨z1, z2, -⟩
        · exact Or.inl z
        · exact Or.inr ⟨z1, by grind⟩
      · dsimp only
        rcases g3 with ⟨z, z2⟩ | ⟨z1, z2, z3, z4⟩
        · rw [if_pos z]
          refine Or.inr ⟨g1, by grind, hh, fun l l0 l1 hl => ?_⟩
          by_cases e : l = n
          · rw [e]; exact Or.inr ⟨rfl, by grind⟩
          · exact absurd hl (z2 l l0 (by grind))
        · rw [if_neg (by grind)]
          by_cases hk : key b ≤ key n
          · rw [if_pos hk]
            refine Or.inr ⟨z1, by grind, z3, fun l l0 l1 hl => ?_⟩
            by_cases e : l = n
            · rw [e]
              by_cases e2 : key b = key n
              · exact Or.inr ⟨e2, by grind⟩
              · exact Or.inl (by grind)
            · exact z4 l l0 (by grind) hl
          · rw [if_neg hk]
            refine Or.inr ⟨g1, by grind, hh, fun l l0 l1 hl => ?_⟩
            by_cases e : l = n
            · rw [e]; exact Or.inr ⟨rfl, by grind⟩
            · left
              rcases z4 l l0 (by grind) hl with y | ⟨y, -⟩ <;> grind
    · refine ⟨_, hN b n g1 hn' hh, ⟨by dsimp only; grind, by dsimp only; grind, ?_⟩, msr_lt hn'⟩
      dsimp only
      rcases g3 with ⟨z, z2⟩ | ⟨z1, z2, z3, z4⟩
      · refine Or.inl ⟨z, fun l l0 l1 => ?_⟩
        by_cases e : l = n
        · rw [e]; exact hh
        · exact z2 l l0 (by grind)
      · refine Or.inr ⟨z1, by grind, z3, fun l l0 l1 hl => ?_⟩
        by_cases e : l = n
        · rw [e] at hl; exact absurd hl hh
        · exact z4 l l0 (by grind) hl
/-- a lot that fits a product and a day, with pieces -/
def GL (plc p day : Int32) (lpr lla lst plot ppc : Nat → Int32) (l : Int32) : Prop := ix lpr l = p ∧ ix lst l = 0 ∧ day ≤ ix lla l ∧ 1 ≤ pof plc plot ppc l
theorem n_nextLot {prods rom plc lcn o p day : Int32} {plot ppc pmk lpr lla lco lst w : Nat → Int32} (h1 : 1 ≤ plc) (h2 : plc ≤ 48) (hw : w 1 * w 2 = plc) (h6 : w 6 = lcn) (c0 : 0 ≤ lcn) (c1 : lcn ≤ 24) (hP : QP plc rom lcn plot ppc pmk w) (hL : QL lcn prods lpr lla lco lst w) (o0 : 0 ≤ o) (o1 : o < 40) (hp : ix w (343 + o) = p) (hd : ix w (463 + o) = day) :
    ∃ r, f_Y8_nextLot o w = some r ∧ NLs lcn (ix lla) (GL plc p day lpr lla lst plot ppc) r := by
  have hp' : w (343 + o).toNatClampNeg = p := hp
  have hd' : w (463 + o).toNatClampNeg = day := hd
  have h6' : w (6 : Int32).toNatClampNeg = lcn := h6
  obtain ⟨r, r1, r2⟩ := min_loop (N := lcn) (key := ix lla) (G := GL plc p day lpr lla lst plot ppc) (g := fun z : Int32 × Int32 => f_Y8_nextLot_L4 o w z.1 z.2) c0 (by grind) (by
    intro b n hn
    dsimp only
    unfold f_Y8_nextLot_L4
    rw [gd_2450 (by decide) (by decide), h6', if_pos hn]) (by
    intro b n n0 n1 hb hG
    obtain ⟨g1, g2, g3, g4⟩ := hG
    obtain ⟨y1, y2, y3, y4, y5, y6, y7, y8, y9, y10, y11, y12⟩ := hL n n0 n1
    have y1' : w (207 + n).toNatClampNeg = ix lpr n := y1
    have y4' : w (231 + n).toNatClampNeg = ix lla n := y4
    have y10' : w (279 + n).toNatClampNeg = ix lst n := y10
    obtain ⟨e, e1, e2⟩ := s_onHand (l := n) hw h1 h2 hP n0
    rw [pof_sum (by grind) h2] at e1
    rw [← Option.some.inj e1] at e2
    dsimp only
    unfold f_Y8_nextLot_L4
    rw [gd_2450 (by decide) (by decide), h6', if_neg (by grind), gd_2450 (by grind) (by grind), gd_2450 (by grind) (by grind), y1', hp', if_pos g1, gd_2450 (by grind) (by grind), y10', if_pos g2, gd_2450 (by grind) (by grind), gd_2450 (by grind) (by grind), y4', hd', if_neg (by grind), e2]
    simp only [bnd1, Option.bind_some]
    rw [if_neg (by grind)]
    unfold f_Y8_nextLot_L4_J87 f_Y8_nextLot_L4_J122 f_Y8_nextLot_L4_J124
    rw [if_neg one_ne]
    by_cases hb1 : b = -1
    · rw [if_pos hb1, if_pos hb1]
    · obtain ⟨b0, b2⟩ : 0 ≤ b ∧ b < lcn := by
        rcases hb with z | z
        · exact absurd z hb1
        · exact z
      have yb : w (231 + b).toNatClampNeg = ix lla b := (hL b b0 b2).2.2.2.1
      rw [if_neg hb1, if_neg hb1, gd_2450 (by grind) (by grind), gd_2450 (by grind) (by grind), yb, y4']
      by_cases hk : ix lla b ≤ ix lla n
      · rw [if_pos hk, if_pos hk]
      · rw [if_neg hk, if_neg hk]) (by
    intro b n n0 n1 hG
    obtain ⟨y1, y2, y3, y4, y5, y6, y7, y8, y9, y10, y11, y12⟩ := hL n n0 n1
    have y1' : w (207 + n).toNatClampNeg = ix lpr n := y1
    have y4' : w (231 + n).toNatClampNeg = ix lla n := y4
    have y10' : w (279 + n).toNatClampNeg = ix lst n := y10
    obtain ⟨e, e1, e2⟩ := s_onHand (l := n) hw h1 h2 hP n0
    rw [pof_sum (by grind) h2] at e1
    rw [← Option.some.inj e1] at e2
    have key : f_Y8_nextLot_L4_J86 o b n w = some (.inl (b, n + 1)) := by
      unfold f_Y8_nextLot_L4_J86 f_Y8_nextLot_L4_J87 f_Y8_nextLot_L4_J124
      rw [if_pos rfl]
    dsimp only
    unfold f_Y8_nextLot_L4
    rw [gd_2450 (by decide) (by decide), h6', if_neg (by grind), gd_2450 (by grind) (by grind), gd_2450 (by grind) (by grind), y1', hp']
    by_cases g1 : ix lpr n = p
    · rw [if_pos g1, gd_2450 (by grind) (by grind), y10']
      by_cases g2 : ix lst n = 0
      · rw [if_pos g2, gd_2450 (by grind) (by grind), gd_2450 (by grind) (by grind), y4', hd']
        by_cases g3 : ix lla n < day
        · rw [if_pos g3, key]
        · rw [if_neg g3, e2]
          simp only [bnd1, Option.bind_some]
          have : pof plc plot ppc n ≤ 0 := by
            by_cases z : 1 ≤ pof plc plot ppc n
            · exact absurd ⟨g1, g2, by grind, z⟩ hG
            · grind
          rw [if_pos this, key]
      · rw [if_neg g2, key]
    · rw [if_neg g1, key])
  exact ⟨r, by unfold f_Y8_nextLot; rw [r1]; rfl, r2⟩
/-- an order that waits -/
def GO2 (dn oop : Nat → Int32) (n : Int32) : Prop := ix dn n = 0 ∧ 1 ≤ ix oop n
theorem n_nextOrder {prods ocn : Int32} {ocu opr oop odu oli w dn : Nat → Int32} (h7 : w 7 = ocn) (c0 : 0 ≤ ocn) (c1 : ocn ≤ 40) (hO : QO ocn prods ocu opr oop odu oli w) : ∃ r, f_Y8_nextOrder w dn = some r ∧ NLs ocn (ix odu) (GO2 dn oop) r := by
  have h7' : w (7 : Int32).toNatClampNeg = ocn := h7
  obtain ⟨r, r1, r2⟩ := min_loop (N := ocn) (key := ix odu) (G := GO2 dn oop) (g := fun z : Int32 × Int32 => f_Y8_nextOrder_L4 w dn z.1 z.2) c0 (by grind) (by
    intro b n hn
    dsimp only
    unfold f_Y8_nextOrder_L4
    rw [gd_2450 (by decide) (by decide), h7', if_pos hn]) (by
    intro b n n0 n1 hb hG
    obtain ⟨g1, g2⟩ := hG
    obtain ⟨y1, y2, y3, y4, y5, y6, y7, y8, y9, y10, y11, y12, y13⟩ := hO n n0 n1
    have y7' : w (383 + n).toNatClampNeg = ix oop n := y7
    have y10' : w (423 + n).toNatClampNeg = ix odu n := y10
    have g1' : dn n.toNatClampNeg = 0 := g1
    dsimp only
    unfold f_Y8_nextOrder_L4 f_Y8_nextOrder_L4_J65 f_Y8_nextOrder_L4_J67
    rw [gd_2450 (by decide) (by decide), h7', if_neg (by grind), gd_40 n0 (by grind), if_pos g1', gd_2450 (by grind) (by grind), y7', if_neg (by grind)]
    by_cases hb1 : b = -1
    · rw [if_pos hb1, if_pos hb1]
    · obtain ⟨b0, b2⟩ : 0 ≤ b ∧ b < ocn := by
        rcases hb with z | z
        · exact absurd z hb1
        · exact z
      have yb : w (423 + b).toNatClampNeg = ix odu b := (hO b b0 b2).2.2.2.2.2.2.2.2.2.1
      rw [if_neg hb1, if_neg hb1, gd_2450 (by grind) (by grind), gd_2450 (by grind) (by grind), yb, y10']
      by_cases hk : ix odu b ≤ ix odu n
      · rw [if_pos hk, if_pos hk]
      · rw [if_neg hk, if_neg hk]) (by
    intro b n n0 n1 hG
    obtain ⟨y1, y2, y3, y4, y5, y6, y7, y8, y9, y10, y11, y12, y13⟩ := hO n n0 n1
    have y7' : w (383 + n).toNatClampNeg = ix oop n := y7
    dsimp only
    unfold f_Y8_nextOrder_L4 f_Y8_nextOrder_L4_J67
    rw [gd_2450 (by decide) (by decide), h7', if_neg (by grind), gd_40 n0 (by grind)]
    by_cases g1 : dn n.toNatClampNeg = 0
    · rw [if_pos g1, gd_2450 (by grind) (by grind), y7']
      have : ix oop n ≤ 0 := by
        by_cases z : 1 ≤ ix oop n
        · exact absurd ⟨g1, z⟩ hG
        · grind
      rw [if_pos this]
    · rw [if_neg g1])
  exact ⟨r, by unfold f_Y8_nextOrder; rw [r1]; rfl, r2⟩
theorem n_give {o l part ocn gif : Int32} {oop oha ost : Nat → Int32} (c1 : ocn ≤ 40) (o0 : 0 ≤ o) (o1 : o < ocn) (l0 : 0 ≤ l) (l1 : l < 24) : f_X2_give o l part ocn gif oop oha ost = some (gif + 1, upd oop o.toNatClampNeg (ix oop o - part), upd oha (o * 24 + l).toNatClampNeg (ix oha (o * 24 + l) + part), upd ost (o * 24 + l).toNatClampNeg (gif + 1)) := by
  have hp : 0 ≤ o ∧ o < ocn := ⟨o0, o1⟩
  unfold f_X2_give f_X2_isCell
  rw [n_exO o ocn c1, if_pos hp]
  simp only [bnd1, Option.bind_some]
  rw [if_neg one_ne, if_neg (by grind), if_neg (by grind)]
  simp only [Option.bind_some]
  rw [if_neg one_ne, gd_40 o0 (by grind), gd_40 o0 (by grind), gd_960 (by grind) (by grind), gd_960 (by grind) (by grind), gd_960 (by grind) (by grind)]
theorem zsum_ge {f : Nat → Int32} : ∀ k : Nat, (∀ j, j < k → 0 ≤ (f j).toInt) → 0 ≤ zsum f k ∧ ∀ j, j < k → (f j).toInt ≤ zsum f k := by
  intro k
  induction k with
  | zero => intro _; exact ⟨by show (0 : Int) ≤ 0; omega, fun j hj => absurd hj (Nat.not_lt_zero _)⟩
  | succ k ih =>
    intro h
    obtain ⟨h1, h2⟩ := ih (fun j hj => h j (by omega))
    have h3 := h k (by omega)
    refine ⟨by show 0 ≤ zsum f k + (f k).toInt; omega, fun j hj => ?_⟩
    show _ ≤ zsum f k + (f k).toInt
    by_cases e : j = k
    · rw [e]; omega
    · have := h2 j (by omega); omega
/-- the state of a wave on both sides -/
def WR (plc rom lcn prods ocn : Int32) (ocu opr odu oli w0 : Nat → Int32) (h0 : Int32) (pk : Int64) (a b c : Nat → Int32) (gif : Int32) (oop oha ost rest w : Nat → Int32) : Prop :=
  QP plc rom lcn a b c w ∧ QK plc pk w ∧ QO ocn prods ocu opr oop odu oli w ∧ QH ocn lcn oha w ∧ QG ocn gif oha ost w ∧ QS ocn gif oop oha ∧ (∀ l : Int32, 0 ≤ l → l < lcn → ix rest l = pof plc a b l) ∧ isum (ix b) plc.toNatClampNeg = h0 - (ix w 10 - ix w0 10) ∧ AG 0 8 w0 w ∧ AG 9 10 w0 w ∧ AG 11 15 w0 w ∧ AG 207 383 w0 w ∧ AG 423 503 w0 w ∧ AG 2423 2450 w0 w
theorem QS_gif {ocn gif prods : Int32} {ocu opr oop odu oli oha w : Nat → Int32} (q : QS ocn gif oop oha) (c0 : 0 ≤ ocn) (c1 : ocn ≤ 40) (hO : QO ocn prods ocu opr oop odu oli w) : gif.toInt ≤ 2000 := by
  obtain ⟨q1, q2⟩ := q
  rw [i_le] at c0 c1
  rw [show (0 : Int32).toInt = 0 from rfl] at c0
  rw [show (40 : Int32).toInt = 40 from rfl] at c1
  have := (zsum_ge (f := oop) ocn.toNatClampNeg (fun j hj => by
    obtain ⟨r1, r2, r3⟩ := of_rng hj
    have h := (hO _ r1 r2).2.2.2.2.2.2.2.1
    have h2 : ix oop (Int32.ofNat j) = oop j := by show oop _ = _; rw [r3]
    rw [h2, i_le] at h; exact h)).1
  omega
theorem WR_give {plc rom lcn prods ocn h0 o l part gif : Int32} {pk pk' : Int64} {ocu opr odu oli w0 a b c a' b' c' oop oha ost rest w w' : Nat → Int32} (q : WR plc rom lcn prods ocn ocu opr odu oli w0 h0 pk a b c gif oop oha ost rest w) (c0 : 0 ≤ ocn) (c1 : ocn ≤ 40) (lc : lcn ≤ 24) (o0 : 0 ≤ o) (o1 : o < ocn) (l0 : 0 ≤ l) (l1 : l < lcn) (t1 : 1 ≤ part) (t2 : part ≤ ix oop o)
    (x1 : QP plc rom lcn a' b' c' w') (x2 : QK plc pk' w') (x3 : ix w' (383 + o) = ix oop o - part) (x4 : ix w' (503 + 24 * o + l) = ix w (503 + 24 * o + l) + part) (x5 : ix w' 10 = ix w 10 + part) (x6 : ix w' 8 = ix w 8 + 1) (x7 : ix w' (1463 + 24 * o + l) = ix w 8 + 1)
    (x8 : ∀ i : Int32, 0 ≤ i → i < 2450 → i ≠ 8 → i ≠ 1463 + 24 * o + l → i ≠ 10 → (i < 15 ∨ 207 ≤ i) → i ≠ 383 + o → i ≠ 503 + 24 * o + l → ix w' i = ix w i)
    (x9 : pof plc a' b' l = pof plc a b l - part) (x10 : ∀ l2 : Int32, 0 ≤ l2 → l2 ≠ l → pof plc a' b' l2 = pof plc a b l2) (x11 : isum (ix b') plc.toNatClampNeg = isum (ix b) plc.toNatClampNeg - part) :
    WR plc rom lcn prods ocn ocu opr odu oli w0 h0 pk' a' b' c' (gif + 1) (upd oop o.toNatClampNeg (ix oop o - part)) (upd oha (o * 24 + l).toNatClampNeg (ix oha (o * 24 + l) + part)) (upd ost (o * 24 + l).toNatClampNeg (gif + 1)) (upd rest l.toNatClampNeg (ix rest l - part)) w' := by
  obtain ⟨q1, q2, q3, q4, q5, q6, q7, q8, q9, q10, q11, q12, q13, q14⟩ := q
  have hgif := QS_gif q6 c0 c1 q3
  have gif0 := q5.2.1
  have gif1 : gif ≤ 2000 := by rw [i_le]; exact hgif
  have uo : ∀ n : Int32, 0 ≤ n → ix (upd oop o.toNatClampNeg (ix oop o - part)) n = if n = o then ix oop o - part else ix oop n := fun n n0 => upd_at o0 n0
  have ol0 : 0 ≤ o * 24 + l := by grind
  have uh : ∀ (f : Nat → Int32) (v n : Int32), 0 ≤ n → ix (upd f (o * 24 + l).toNatClampNeg v) n = if n = o * 24 + l then v else ix f n := fun f v n n0 => upd_at ol0 n0
  have cell : ∀ n m : Int32, 0 ≤ n → n < 40 → 0 ≤ m → m < 24 → (n * 24 + m = o * 24 + l ↔ n = o ∧ m = l) := fun n m n0 n1 m0 m1 => ⟨fun z => mul24 n0 n1 o0 (by grind) m0 m1 l0 (by grind) z, fun z => by rw [z.1, z.2]⟩
  -- the row's sum bounds a cell
  have hrow : ∀ n : Int32, 0 ≤ n → n < ocn → (∀ j, j < 24 → 0 ≤ (oha ((n * 24).toNatClampNeg + j)).toInt) := fun n n0 n1 j hj => by
    obtain ⟨m, m0, m1, e, -⟩ := row_ix n0 (show n < 40 by grind) hj
    have h := (q4 n m n0 n1 m0 m1).2.1
    rw [e, ← show ix oha (n * 24 + m) = oha (n * 24 + m).toNatClampNeg from rfl]
    rw [i_le] at h; exact h
  have hcell : (ix oha (o * 24 + l)).toInt + (ix oop o).toInt ≤ 50 := by
    have h1 := q6.1 o o0 o1
    have hl : l.toNatClampNeg < 24 := by
      have := tn_lt l0 (show l < 24 by grind)
      exact this
    have h2 := (zsum_ge (f := fun k => oha ((o * 24).toNatClampNeg + k)) 24 (hrow o o0 o1)).2 l.toNatClampNeg hl
    have e : (o * 24).toNatClampNeg + l.toNatClampNeg = (o * 24 + l).toNatClampNeg := by
      obtain ⟨m, m0, m1, e1, e2⟩ := row_ix o0 (show o < 40 by grind) hl
      rw [e1, (tn_inj m0 l0).mp e2]
    rw [e] at h2
    have h3 : (ix oha (o * 24 + l)).toInt = (oha (o * 24 + l).toNatClampNeg).toInt := rfl
    omega
  obtain ⟨qo1, qo2, qo3, qo4, qo5, qo6, qo7, qo8, qo9, qo10⟩ := q3 o o0 o1
  have hh := q4 o l o0 o1 l0 (by grind)
  have i1 := i_le.mp t1
  have i2 := i_le.mp t2
  have i3 := i_le.mp qo9
  have i4 := i_le.mp hh.2.1
  rw [show (1 : Int32).toInt = 1 from rfl] at i1
  rw [show (50 : Int32).toInt = 50 from rfl] at i3
  rw [show (0 : Int32).toInt = 0 from rfl] at i4
  have s1 : (ix oha (o * 24 + l) + part).toInt = (ix oha (o * 24 + l)).toInt + part.toInt := i_add (by omega) (by omega)
  have s2 : (ix oop o - part).toInt = (ix oop o).toInt - part.toInt := i_sub (by omega) (by omega)
  refine ⟨x1, x2, ?_, ?_, ?_, ?_, ?_, ?_, ?_, ?_, ?_, ?_, ?_, ?_⟩
  · intro n n0 n1
    obtain ⟨y1, y2, y3, y4, y5, y6, y7, y8, y9, y10, y11, y12, y13⟩ := q3 n n0 n1
    rw [x8 (303 + n) (by grind) (by grind) (by grind) (by grind) (by grind) (by grind) (by grind) (by grind), x8 (343 + n) (by grind) (by grind) (by grind) (by grind) (by grind) (by grind) (by grind) (by grind), x8 (423 + n) (by grind) (by grind) (by grind) (by grind) (by grind) (by grind) (by grind) (by grind), x8 (463 + n) (by grind) (by grind) (by grind) (by grind) (by grind) (by grind) (by grind) (by grind), uo n n0]
    refine ⟨y1, y2, y3, y4, y5, y6, ?_, ?_, ?_, y10, y11, y12, y13⟩
    · by_cases hn : n = o
      · rw [if_pos hn, hn]; exact x3
      · rw [if_neg hn, x8 (383 + n) (by grind) (by grind) (by grind) (by grind) (by grind) (by grind) (by grind) (by grind)]; exact y7
    · by_cases hn : n = o
      · rw [if_pos hn]; grind
      · rw [if_neg hn]; exact y8
    · by_cases hn : n = o
      · rw [if_pos hn]; grind
      · rw [if_neg hn]; exact y9
  · intro n m n0 n1 m0 m1
    obtain ⟨y1, y2, y3, y4⟩ := q4 n m n0 n1 m0 m1
    rw [uh _ _ _ (by grind)]
    by_cases hnm : n = o ∧ m = l
    · rw [if_pos ((cell n m n0 (by grind) m0 m1).mpr hnm)]
      obtain ⟨rfl, rfl⟩ := hnm
      refine ⟨by rw [x4, y1], ?_, ?_, fun z => absurd z (by grind)⟩
      · rw [i_le, s1, show (0 : Int32).toInt = 0 from rfl]; omega
      · rw [i_le, s1, show (50 : Int32).toInt = 50 from rfl]; omega
    · have hne : ¬ n * 24 + m = o * 24 + l := fun z => hnm ((cell n m n0 (by grind) m0 m1).mp z)
      rw [if_neg hne, x8 _ (by grind) (by grind) (by grind) (by grind) (by grind) (by grind) (by grind) (by grind)]
      exact ⟨y1, y2, y3, y4⟩
  · obtain ⟨g1, g2, g3, g4, g5⟩ := q5
    have g1' : ix w 8 = gif := g1
    refine ⟨?_, by grind, ?_, ?_, ?_⟩
    · show ix w' 8 = _
      rw [x6, g1']
    · intro n m n0 n1 m0 m1
      obtain ⟨y1, y2, y3, y4⟩ := g3 n m n0 n1 m0 m1
      rw [uh _ _ _ (by grind), uh _ _ _ (by grind)]
      by_cases hnm : n = o ∧ m = l
      · rw [if_pos ((cell n m n0 (by grind) m0 m1).mpr hnm), if_pos ((cell n m n0 (by grind) m0 m1).mpr hnm)]
        obtain ⟨rfl, rfl⟩ := hnm
        exact ⟨by rw [x7, g1'], by grind, by grind, fun _ => by grind⟩
      · have hne : ¬ n * 24 + m = o * 24 + l := fun z => hnm ((cell n m n0 (by grind) m0 m1).mp z)
        rw [if_neg hne, if_neg hne, x8 _ (by grind) (by grind) (by grind) (by grind) (by grind) (by grind) (by grind) (by grind)]
        exact ⟨y1, y2, by grind, y4⟩
    · intro n m m' n0 n1 m0 m1 m2 m3
      have y := g3 n m n0 n1 m0 m1
      have y' := g3 n m' n0 n1 m2 m3
      rw [uh _ _ _ (by grind), uh _ _ _ (by grind), uh _ _ _ (by grind), uh _ _ _ (by grind)]
      by_cases hnm : n = o ∧ m = l
      · by_cases hnm' : n = o ∧ m' = l
        · exact fun _ _ _ => hnm.2.trans hnm'.2.symm
        · have hne' : ¬ n * 24 + m' = o * 24 + l := fun z => hnm' ((cell n m' n0 (by grind) m2 m3).mp z)
          rw [if_neg hne', if_neg hne', if_pos ((cell n m n0 (by grind) m0 m1).mpr hnm)]
          intro _ _ z
          exact absurd z (by grind)
      · have hne : ¬ n * 24 + m = o * 24 + l := fun z => hnm ((cell n m n0 (by grind) m0 m1).mp z)
        rw [if_neg hne, if_neg hne]
        by_cases hnm' : n = o ∧ m' = l
        · rw [if_pos ((cell n m' n0 (by grind) m2 m3).mpr hnm'), if_pos ((cell n m' n0 (by grind) m2 m3).mpr hnm')]
          intro _ _ z
          exact absurd z (by grind)
        · have hne' : ¬ n * 24 + m' = o * 24 + l := fun z => hnm' ((cell n m' n0 (by grind) m2 m3).mp z)
          rw [if_neg hne', if_neg hne']
          exact g4 n m m' n0 n1 m0 m1 m2 m3
    · intro n m n0 n1 m0 m1
      rw [x8 (503 + 24 * n + m) (by grind) (by grind) (by grind) (by grind) (by grind) (by grind) (by grind) (by grind), x8 (1463 + 24 * n + m) (by grind) (by grind) (by grind) (by grind) (by grind) (by grind) (by grind) (by grind)]
      exact g5 n m n0 n1 m0 m1
  · obtain ⟨z1, z2⟩ := q6
    refine ⟨?_, ?_⟩
    · intro n n0 n1
      rw [uo n n0]
      by_cases hn : n = o
      · rw [if_pos hn, hn, s2]
        have hl : l.toNatClampNeg < 24 := tn_lt l0 (show l < 24 by grind)
        have e : (o * 24).toNatClampNeg + l.toNatClampNeg = (o * 24 + l).toNatClampNeg := by
          obtain ⟨m, m0, m1, e1, e2⟩ := row_ix o0 (show o < 40 by grind) hl
          rw [e1, (tn_inj m0 l0).mp e2]
        have hf : (fun k => upd oha (o * 24 + l).toNatClampNeg (ix oha (o * 24 + l) + part) ((o * 24).toNatClampNeg + k)) = upd (fun k => oha ((o * 24).toNatClampNeg + k)) l.toNatClampNeg (ix oha (o * 24 + l) + part) := by
          funext k
          unfold upd
          by_cases hk : k = l.toNatClampNeg
          · rw [if_pos hk, if_pos (by rw [hk, e])]
          · rw [if_neg hk, if_neg (by omega)]
        rw [hf, zsum_upd, if_pos hl, s1]
        have h3 : (ix oha (o * 24 + l)).toInt = (oha ((o * 24).toNatClampNeg + l.toNatClampNeg)).toInt := by rw [e]
        have := z1 o o0 o1
        omega
      · rw [if_neg hn, row_eq (f := oha) (f' := upd oha (o * 24 + l).toNatClampNeg (ix oha (o * 24 + l) + part)) n0 (by grind) (fun m m0 m1 => by
          rw [uh _ _ _ (by grind), if_neg (fun z => hn ((cell n m n0 (by grind) m0 m1).mp z).1)])]
        exact z1 n n0 n1
    · rw [zsum_upd, if_pos (tn_lt o0 o1), s2, i_inc (by omega)]
      have : (ix oop o).toInt = (oop o.toNatClampNeg).toInt := rfl
      omega
  · intro l2 l20 l21
    have u : ix (upd rest l.toNatClampNeg (ix rest l - part)) l2 = if l2 = l then ix rest l - part else ix rest l2 := upd_at l0 l20
    rw [u]
    by_cases e : l2 = l
    · rw [if_pos e, e, x9, q7 l l0 l1]
    · rw [if_neg e, x10 l2 l20 e]; exact q7 l2 l20 l21
  · rw [x11, q8, x5]; grind
  · exact q9.tr (fun i i0 i1 => x8 i (by grind) (by grind) (by grind) (by grind) (by grind) (by grind) (by grind) (by grind))
  · exact q10.tr (fun i i0 i1 => x8 i (by grind) (by grind) (by grind) (by grind) (by grind) (by grind) (by grind) (by grind))
  · exact q11.tr (fun i i0 i1 => x8 i (by grind) (by grind) (by grind) (by grind) (by grind) (by grind) (by grind) (by grind))
  · exact q12.tr (fun i i0 i1 => x8 i (by grind) (by grind) (by grind) (by grind) (by grind) (by grind) (by grind) (by grind))
  · exact q13.tr (fun i i0 i1 => x8 i (by grind) (by grind) (by grind) (by grind) (by grind) (by grind) (by grind) (by grind))
  · exact q14.tr (fun i i0 i1 => x8 i (by grind) (by grind) (by grind) (by grind) (by grind) (by grind) (by grind) (by grind))
