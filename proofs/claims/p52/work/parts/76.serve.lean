/-! ===== the wave: an order is served ===== -/
/-- two loops; the first may step alone -/
theorem lp_stut {σ τ ε δ : Type} {f : σ → Option (σ ⊕ ε)} {g : τ → Option (τ ⊕ δ)} (Inv : σ → τ → Prop) (Post : ε → δ → Prop) (μ : σ → Nat)
    (h : ∀ s t, Inv s t → (∃ s', f s = some (.inl s') ∧ Inv s' t ∧ μ s' < μ s) ∨ (∃ s' t', f s = some (.inl s') ∧ g t = some (.inl t') ∧ Inv s' t' ∧ μ s' < μ s) ∨ ∃ e d, f s = some (.inr e) ∧ g t = some (.inr d) ∧ Post e d) :
    ∀ n m s t, Inv s t → μ s < n → n ≤ m → ∃ e d, loop f n s = some e ∧ loop g m t = some d ∧ Post e d := by
  intro n
  induction n with
  | zero => intro m s t _ h2; exact absurd h2 (Nat.not_lt_zero _)
  | succ n ih =>
    intro m s t hi hm hnm
    rcases h s t hi with ⟨s', h1, h2, h3⟩ | ⟨s', t', h1, k1, h2, h3⟩ | ⟨e, d, h1, k1, h2⟩
    · obtain ⟨e, d, h4, k4, h5⟩ := ih m s' t h2 (by omega) (by omega)
      exact ⟨e, d, by simp only [loop, h1]; exact h4, k4, h5⟩
    · obtain ⟨m', rfl⟩ : ∃ m', m = m' + 1 := ⟨m - 1, by omega⟩
      obtain ⟨e, d, h4, k4, h5⟩ := ih m' s' t' h2 (by omega) (by omega)
      exact ⟨e, d, by simp only [loop, h1]; exact h4, by simp only [loop, k1]; exact k4, h5⟩
    · obtain ⟨m', rfl⟩ : ∃ m', m = m' + 1 := ⟨m - 1, by omega⟩
      exact ⟨e, d, by simp only [loop, h1], by simp only [loop, k1], h2⟩
abbrev SvT : Type := Int32 × Int32 × Int64 × (Nat → Int32) × (Nat → Int32) × (Nat → Int32) × Int32 × (Nat → Int32) × (Nat → Int32) × (Nat → Int32) × (Nat → Int32)
abbrev SvR : Type := Int32 × Int64 × (Nat → Int32) × (Nat → Int32) × (Nat → Int32) × Int32 × (Nat → Int32) × (Nat → Int32) × (Nat → Int32) × (Nat → Int32)
def sv (o fl op plc : Int32) (pbd : Nat → Int32) (lcn : Int32) (lpr lla lst lbl : Nat → Int32) (ocn : Int32) (opr odu oli : Nat → Int32) (z : SvT) : Option (SvT ⊕ SvR) :=
  f_X7_serve_L35 o fl op plc pbd lcn lpr lla lst lbl ocn opr odu oli z.1 z.2.1 z.2.2.1 z.2.2.2.1 z.2.2.2.2.1 z.2.2.2.2.2.1 z.2.2.2.2.2.2.1 z.2.2.2.2.2.2.2.1 z.2.2.2.2.2.2.2.2.1 z.2.2.2.2.2.2.2.2.2.1 z.2.2.2.2.2.2.2.2.2.2
/-- what is given of a lot -/
def svp (rest : Nat → Int32) (L left : Int32) : Int32 := if ix rest L < left then ix rest L else left
/-- a lot fits an order -/
def SF (o : Int32) (lpr lla lst opr odu oli : Nat → Int32) (L : Int32) : Prop := ix lpr L = ix opr o ∧ ix lst L = 0 ∧ ix odu o + ix oli o ≤ ix lla L
theorem sv_end {o fl op plc lcn ocn n4 n5 gif : Int32} {pk : Int64} {pbd lpr lla lst lbl opr odu oli a b c oop oha ost rest : Nat → Int32} (h : lcn ≤ n5 ∨ op ≤ n4) : sv o fl op plc pbd lcn lpr lla lst lbl ocn opr odu oli (n4, n5, pk, a, b, c, gif, oop, oha, ost, rest) = some (.inr (n4, pk, a, b, c, gif, oop, oha, ost, rest)) := by
  unfold sv f_X7_serve_L35
  by_cases h1 : lcn ≤ n5
  · rw [if_pos h1]
  · have h2 : op ≤ n4 := by grind
    rw [if_neg h1, if_pos h2]
theorem sv_no {o fl op plc lcn ocn n4 n5 gif : Int32} {pk : Int64} {pbd lpr lla lst lbl opr odu oli a b c oop oha ost rest : Nat → Int32} (lc : lcn ≤ 24) (oc : ocn ≤ 40) (h1 : 0 ≤ n5) (h2 : n5 < lcn) (h3 : n4 < op) (o0 : 0 ≤ o) (o1 : o < ocn) (L0 : 0 ≤ ix lbl n5) (L1 : ix lbl n5 < lcn) (hf : ¬ SF o lpr lla lst opr odu oli (ix lbl n5)) :
    sv o fl op plc pbd lcn lpr lla lst lbl ocn opr odu oli (n4, n5, pk, a, b, c, gif, oop, oha, ost, rest) = some (.inl (n4, n5 + 1, pk, a, b, c, gif, oop, oha, ost, rest)) := by
  have b5 : lbl n5.toNatClampNeg = ix lbl n5 := rfl
  have b6 : opr o.toNatClampNeg = ix opr o := rfl
  unfold sv f_X7_serve_L35 f_X7_serve_L35_J182
  rw [if_neg (by grind), if_neg (by grind), gd_24 h1 (by grind), gd_40 o0 (by grind), n_wanted oc o0 o1]
  simp only [bnd1, Option.bind_some]
  rw [b5, b6, n_isFit lc L0 L1]
  unfold SF at hf
  simp only [Option.bind_some, if_neg hf, ↓reduceIte]
theorem sv_zero {o fl op plc lcn ocn n4 n5 gif : Int32} {pk : Int64} {pbd lpr lla lst lbl opr odu oli a b c oop oha ost rest : Nat → Int32} (lc : lcn ≤ 24) (oc : ocn ≤ 40) (h1 : 0 ≤ n5) (h2 : n5 < lcn) (h3 : n4 < op) (o0 : 0 ≤ o) (o1 : o < ocn) (L0 : 0 ≤ ix lbl n5) (L1 : ix lbl n5 < lcn) (hf : SF o lpr lla lst opr odu oli (ix lbl n5)) (hp : fl = 0 ∨ svp rest (ix lbl n5) (op - n4) ≤ 0) :
    sv o fl op plc pbd lcn lpr lla lst lbl ocn opr odu oli (n4, n5, pk, a, b, c, gif, oop, oha, ost, rest) = some (.inl (n4 + svp rest (ix lbl n5) (op - n4), n5 + 1, pk, a, b, c, gif, oop, oha, ost, upd rest (ix lbl n5).toNatClampNeg (ix rest (ix lbl n5) - svp rest (ix lbl n5) (op - n4)))) := by
  have b5 : lbl n5.toNatClampNeg = ix lbl n5 := rfl
  have b6 : opr o.toNatClampNeg = ix opr o := rfl
  have b7 : rest (ix lbl n5).toNatClampNeg = ix rest (ix lbl n5) := rfl
  have b8 : (if ix rest (ix lbl n5) < op - n4 then ix rest (ix lbl n5) else op - n4) = svp rest (ix lbl n5) (op - n4) := rfl
  unfold sv f_X7_serve_L35 f_X7_serve_L35_J182
  rw [if_neg (by grind), if_neg (by grind), gd_24 h1 (by grind), gd_40 o0 (by grind), n_wanted oc o0 o1]
  simp only [bnd1, Option.bind_some]
  rw [b5, b6, n_isFit lc L0 L1]
  unfold SF at hf
  simp only [Option.bind_some, if_pos hf, if_neg one_ne]
  rw [gd_24 L0 (by grind), gd_24 L0 (by grind), gd_24 L0 (by grind), b7, b8]
  by_cases hfl : fl = 0
  · rw [if_pos hfl]
  · rw [if_neg hfl, if_pos (hp.resolve_left hfl)]
theorem sv_real {o op plc lcn ocn n4 n5 gif : Int32} {pk pk' : Int64} {pbd lpr lla lst lbl opr odu oli a b c a' b' c' oop oha ost rest : Nat → Int32} (lc : lcn ≤ 24) (oc : ocn ≤ 40) (h1 : 0 ≤ n5) (h2 : n5 < lcn) (h3 : n4 < op) (o0 : 0 ≤ o) (o1 : o < ocn) (L0 : 0 ≤ ix lbl n5) (L1 : ix lbl n5 < lcn) (hf : SF o lpr lla lst opr odu oli (ix lbl n5)) (hp : 1 ≤ svp rest (ix lbl n5) (op - n4))
    (hk : f_X5_pick (ix lbl n5) (svp rest (ix lbl n5) (op - n4)) plc pk a b c pbd = some (pk', a', b', c')) :
    sv o 1 op plc pbd lcn lpr lla lst lbl ocn opr odu oli (n4, n5, pk, a, b, c, gif, oop, oha, ost, rest) = some (.inl (n4 + svp rest (ix lbl n5) (op - n4), n5 + 1, pk', a', b', c', gif + 1, upd oop o.toNatClampNeg (ix oop o - svp rest (ix lbl n5) (op - n4)), upd oha (o * 24 + ix lbl n5).toNatClampNeg (ix oha (o * 24 + ix lbl n5) + svp rest (ix lbl n5) (op - n4)), upd ost (o * 24 + ix lbl n5).toNatClampNeg (gif + 1), upd rest (ix lbl n5).toNatClampNeg (ix rest (ix lbl n5) - svp rest (ix lbl n5) (op - n4)))) := by
  have b5 : lbl n5.toNatClampNeg = ix lbl n5 := rfl
  have b6 : opr o.toNatClampNeg = ix opr o := rfl
  have b7 : rest (ix lbl n5).toNatClampNeg = ix rest (ix lbl n5) := rfl
  have b8 : (if ix rest (ix lbl n5) < op - n4 then ix rest (ix lbl n5) else op - n4) = svp rest (ix lbl n5) (op - n4) := rfl
  unfold sv f_X7_serve_L35 f_X7_serve_L35_J182
  rw [if_neg (by grind), if_neg (by grind), gd_24 h1 (by grind), gd_40 o0 (by grind), n_wanted oc o0 o1]
  simp only [bnd1, Option.bind_some]
  rw [b5, b6, n_isFit lc L0 L1]
  unfold SF at hf
  simp only [Option.bind_some, if_pos hf, if_neg one_ne]
  rw [gd_24 L0 (by grind), gd_24 L0 (by grind), gd_24 L0 (by grind), b7, b8, if_neg (by grind), hk]
  simp only [bnd4, Option.bind_some]
  rw [n_give oc o0 o1 L0 (by grind)]
  rfl
theorem serve_eq {o fl plc lcn ocn gif : Int32} {pk : Int64} {pbd lpr lla lst lbl opr odu oli a b c oop oha ost rest : Nat → Int32} (oc : ocn ≤ 40) (o0 : 0 ≤ o) (o1 : o < ocn) : f_X7_serve o fl plc pk a b c pbd lcn lpr lla lst lbl ocn gif opr oop odu oli oha ost rest = loop (sv o fl (ix oop o) plc pbd lcn lpr lla lst lbl ocn opr odu oli) fu (0, 0, pk, a, b, c, gif, oop, oha, ost, rest) := by
  have hp : 0 ≤ o ∧ o < ocn := ⟨o0, o1⟩
  unfold f_X7_serve
  rw [n_exO o ocn oc, if_pos hp]
  simp only [bnd1, Option.bind_some]
  rw [if_neg one_ne, gd_40 o0 (by grind)]
  show bnd10 (loop (sv o fl (ix oop o) plc pbd lcn lpr lla lst lbl ocn opr odu oli) fu (0, 0, pk, a, b, c, gif, oop, oha, ost, rest)) _ = _
  cases loop (sv o fl (ix oop o) plc pbd lcn lpr lla lst lbl ocn opr odu oli) fu (0, 0, pk, a, b, c, gif, oop, oha, ost, rest) with
  | none => rfl
  | some v => rfl
abbrev X9 : Type := Int64 × (Nat → Int32) × (Nat → Int32) × (Nat → Int32) × Int32 × (Nat → Int32) × (Nat → Int32) × (Nat → Int32) × (Nat → Int32)
def WQ (plc rom lcn prods ocn : Int32) (ocu opr odu oli w0 : Nat → Int32) (h0 : Int32) (x : X9) (w : Nat → Int32) : Prop := WR plc rom lcn prods ocn ocu opr odu oli w0 h0 x.1 x.2.1 x.2.2.1 x.2.2.2.1 x.2.2.2.2.1 x.2.2.2.2.2.1 x.2.2.2.2.2.2.1 x.2.2.2.2.2.2.2.1 x.2.2.2.2.2.2.2.2 w
abbrev X9.oop (x : X9) : Nat → Int32 := x.2.2.2.2.2.1
theorem s_serve {plc rom lcn prods ocn h0 o r : Int32} {pbd near lpr lla lco lst lbl ocu opr odu oli w0 w dn : Nat → Int32} {x : X9} (p1 : 1 ≤ plc) (p2 : plc ≤ 48) (r1 : 1 ≤ rom) (r2 : rom ≤ 20) (lc0 : 0 ≤ lcn) (lc : lcn ≤ 24) (c0 : 0 ≤ ocn) (oc : ocn ≤ 40)
    (hw : w0 1 * w0 2 = plc) (h6 : w0 6 = lcn) (hL : QL lcn prods lpr lla lco lst w0) (hLs : QLs lcn lla lbl) (hR : QR plc pbd near) (q : WQ plc rom lcn prods ocn ocu opr odu oli w0 h0 x w) (o0 : 0 ≤ o) (o1 : o < ocn) (hop : 1 ≤ ix x.oop o)
    (hr : NLs lcn (ix lla) (GL plc (ix opr o) (ix odu o + ix oli o) lpr lla lst x.2.1 x.2.2.1) r) :
    ∃ e w', loop (sv o 1 (ix x.oop o) plc pbd lcn lpr lla lst lbl ocn opr odu oli) fu (0, 0, x) = some e ∧ loop (fun z : Int32 × (Nat → Int32) => f_Y8_givesWave_L69 o near dn z.1 z.2) fu (r, w) = some w' ∧ WQ plc rom lcn prods ocn ocu opr odu oli w0 h0 e.2 w' ∧ ix w' 10 = ix w 10 + e.1 ∧ ix (X9.oop e.2) o = ix x.oop o - e.1 ∧ ∀ n : Int32, 0 ≤ n → n ≠ o → ix (X9.oop e.2) n = ix x.oop n := by
  have op50 : ix x.oop o ≤ 50 := (q.2.2.1 o o0 o1).2.2.2.2.2.2.2.2.1
  generalize hopv : ix x.oop o = op at *
  refine lp_stut (f := sv o 1 op plc pbd lcn lpr lla lst lbl ocn opr odu oli) (g := fun z : Int32 × (Nat → Int32) => f_Y8_givesWave_L69 o near dn z.1 z.2)
    (fun s t => 0 ≤ s.2.1 ∧ s.2.1 ≤ lcn ∧ 0 ≤ s.1 ∧ s.1 ≤ op ∧ WQ plc rom lcn prods ocn ocu opr odu oli w0 h0 s.2.2 t.2 ∧ ix (X9.oop s.2.2) o = op - s.1 ∧ ix t.2 10 = ix w 10 + s.1 ∧ (∀ n : Int32, 0 ≤ n → n ≠ o → ix (X9.oop s.2.2) n = ix x.oop n) ∧
      NLs lcn (ix lla) (GL plc (ix opr o) (ix odu o + ix oli o) lpr lla lst s.2.2.2.1 s.2.2.2.2.1) t.1 ∧ (s.1 < op → ∀ j : Int32, 0 ≤ j → j < s.2.1 → ¬ GL plc (ix opr o) (ix odu o + ix oli o) lpr lla lst s.2.2.2.1 s.2.2.2.2.1 (ix lbl j)))
    _ (fun s => msr s.2.1 lcn) ?_ fu fu (0, 0, x) (r, w) ⟨by dsimp only; decide, lc0, by dsimp only; decide, by dsimp only; grind, q, by dsimp only; rw [hopv, Int32.sub_zero], by dsimp only; rw [Int32.add_zero], fun _ _ _ => rfl, hr, fun _ j j0 j1 => absurd j1 (by dsimp only; grind)⟩ (msr_fu (by dsimp only; decide) (by grind)) (Nat.le_refl _)
  rintro ⟨n4, n5, pk, a, b, c, gif, oop, oha, ost, rest⟩ ⟨r', w'⟩ ⟨g1, g2, g3, g4, g5, g6, g7, g8, g9, g10⟩
  dsimp only [X9.oop] at g1 g2 g3 g4 g5 g6 g7 g8 g9 g10 ⊢
  have g5' := g5
  obtain ⟨k1, k2, k3, k4, k5, k6, k7, k8, k9, k10, k11, k12, k13, k14⟩ := g5'
  dsimp only at k1 k2 k3 k4 k5 k6 k7 k8
  have hopn : ix w' (383 + o) = op - n4 := by rw [(k3 o o0 o1).2.2.2.2.2.2.1]; exact g6
  have hopn' : w' (383 + o).toNatClampNeg = op - n4 := hopn
  have fin : ∀ y : Int32, n4 = op ∨ r' = -1 → f_Y8_givesWave_L69 o near dn r' w' = some (.inr w') := by
    intro y hy
    unfold f_Y8_givesWave_L69
    by_cases e : r' = -1
    · rw [if_pos e]
    · rw [if_neg e, gd_2450 (by grind) (by grind), hopn', if_pos (by grind)]
  by_cases hend : lcn ≤ n5 ∨ op ≤ n4
  · right; right
    refine ⟨_, w', sv_end hend, fin 0 ?_, g5, g7, g6, g8⟩
    by_cases h : op ≤ n4
    · exact Or.inl (by grind)
    · right
      have hl : lcn ≤ n5 := hend.resolve_right h
      rcases g9 with ⟨z, -⟩ | ⟨z1, z2, z3, -⟩
      · exact z
      · exfalso
        obtain ⟨j, j0, j1, j2⟩ := hLs.2.2 r' z1 z2
        exact g10 (by grind) j j0 (by grind) (by rw [j2]; exact z3)
  · have h1 : n5 < lcn := by grind
    have h2 : n4 < op := by grind
    obtain ⟨L0, L1⟩ := hLs.1 n5 g1 h1
    have hwc : w' 1 * w' 2 = plc := by
      have e1 : w' 1 = w0 1 := k9 1 (by decide) (by decide)
      have e2 : w' 2 = w0 2 := k9 2 (by decide) (by decide)
      rw [e1, e2]; exact hw
    have pofr := pof_rng (l := ix lbl n5) (show 0 ≤ plc by grind) p2 r2 r1 k1
    have hrest : ix rest (ix lbl n5) = pof plc a b (ix lbl n5) := k7 _ L0 L1
    have pof0 : 0 ≤ pof plc a b (ix lbl n5) := by rw [i_le]; exact pofr.1
    by_cases hf : SF o lpr lla lst opr odu oli (ix lbl n5)
    · by_cases hp : 1 ≤ pof plc a b (ix lbl n5)
      · -- the lot is given
        right; left
        have hG : GL plc (ix opr o) (ix odu o + ix oli o) lpr lla lst a b (ix lbl n5) := ⟨hf.1, hf.2.1, hf.2.2, hp⟩
        have hrL : r' = ix lbl n5 := by
          rcases g9 with ⟨-, z⟩ | ⟨z1, z2, z3, z4⟩
          · exact absurd hG (z _ L0 L1)
          · have y := z4 _ L0 L1 hG
            obtain ⟨j, j0, j1, j2⟩ := hLs.2.2 r' z1 z2
            by_cases e : j = n5
            · rw [← j2, e]
            · by_cases e2 : j < n5
              · exact absurd (by rw [j2]; exact z3) (g10 h2 j j0 e2)
              · have := hLs.2.1 n5 j g1 (by grind) j1
                rw [j2] at this
                grind
        have hsv : svp rest (ix lbl n5) (op - n4) = if pof plc a b (ix lbl n5) < op - n4 then pof plc a b (ix lbl n5) else op - n4 := by
          unfold svp; rw [hrest]
        obtain ⟨pk', l', p', k', w2, s1, s2, s3, s4, s5, s6, s7, s8, s9, s10, s11, s12, s13⟩ := s_gives (l := ix lbl n5) (part := svp rest (ix lbl n5) (op - n4)) (near := near) p1 p2 r1 r2 hwc k1 k2 hR o0 (show o < 40 by grind) L0 L1 lc hopn (by grind) (by grind) hp hsv
        have hb : 1 ≤ svp rest (ix lbl n5) (op - n4) ∧ svp rest (ix lbl n5) (op - n4) ≤ op - n4 ∧ (n4 + svp rest (ix lbl n5) (op - n4) < op → svp rest (ix lbl n5) (op - n4) = pof plc a b (ix lbl n5)) := by
          rw [hsv]
          by_cases e : pof plc a b (ix lbl n5) < op - n4
          · rw [if_pos e]; exact ⟨hp, by grind, fun _ => rfl⟩
          · rw [if_neg e]; exact ⟨by grind, by grind, fun z => absurd z (by grind)⟩
        obtain ⟨hb1, hb2, hb3⟩ := hb
        have hoo : ix oop o = op - n4 := g6
        have wr := WR_give (w' := w2) g5 c0 oc lc o0 o1 L0 L1 hb1 (by dsimp only; rw [hoo]; exact hb2) s3 s4 (by dsimp only; rw [hoo]; exact s5) s6 s7 s8 s9 s10 s11 s12 s13
        dsimp only at wr
        obtain ⟨-, -, -, -, -, -, -, -, m9, m10, m11, m12, m13, m14⟩ := wr
        have hwc2 : w2 1 * w2 2 = plc := by
          have e1 : w2 1 = w0 1 := m9 1 (by decide) (by decide)
          have e2 : w2 2 = w0 2 := m9 2 (by decide) (by decide)
          rw [e1, e2]; exact hw
        have hL2 : QL lcn prods lpr lla lco lst w2 := QL_ag lc (m12.sub (by decide) (by decide)) hL
        have e343 : ix w2 (343 + o) = ix opr o := by
          have z1 : ix w2 (343 + o) = ix w' (343 + o) := by rw [m12 _ (by grind) (by grind), k12 _ (by grind) (by grind)]
          rw [z1]; exact (k3 o o0 o1).2.2.2.1
        have e463 : ix w2 (463 + o) = ix odu o + ix oli o := by
          have z1 : ix w2 (463 + o) = ix w' (463 + o) := by rw [m13 _ (by grind) (by grind), k13 _ (by grind) (by grind)]
          rw [z1]; exact (k3 o o0 o1).2.2.2.2.2.2.2.2.2.2.2.2.1
        obtain ⟨r2', n1, n2⟩ := n_nextLot p1 p2 hwc2 ((m9 6 (by decide) (by decide)).trans h6) lc0 lc s3 hL2 o0 (show o < 40 by grind) e343 e463
        refine ⟨_, (r2', w2), sv_real lc oc g1 h1 h2 o0 o1 L0 L1 hf hb1 s1, ?_, ⟨by dsimp only; grind, by dsimp only; grind, by dsimp only; grind, by dsimp only; grind, ?_, ?_, ?_, ?_, n2, ?_⟩, msr_lt h1⟩
        · unfold f_Y8_givesWave_L69
          rw [if_neg (by rw [hrL]; grind), gd_2450 (by grind) (by grind), hopn', if_neg (by grind), hrL, s2]
          simp only [bnd1, Option.bind_some]
          rw [n1]; rfl
        · exact WR_give (w' := w2) g5 c0 oc lc o0 o1 L0 L1 hb1 (by rw [hoo]; exact hb2) s3 s4 (by rw [hoo]; exact s5) s6 s7 s8 s9 s10 s11 s12 s13
        · show upd oop o.toNatClampNeg (ix oop o - svp rest (ix lbl n5) (op - n4)) o.toNatClampNeg = _
          rw [upd_same, hoo]
          dsimp only; grind
        · dsimp only; rw [s7, g7]; grind
        · intro n n0 n1
          show upd oop o.toNatClampNeg _ n.toNatClampNeg = _
          rw [upd_ne o0 n0 n1]; exact g8 n n0 n1
        · intro hlt j j0 j1
          dsimp only at hlt j1 ⊢
          rintro ⟨z1, z2, z3, z4⟩
          by_cases e : j = n5
          · rw [e, s11, hb3 hlt, Int32.sub_self] at z4
            exact absurd z4 (by decide)
          · have jl := hLs.1 j j0 (by grind)
            have : ix lbl j ≠ ix lbl n5 := by
              intro z
              have := hLs.2.1 j n5 j0 (by grind) h1
              rw [z] at this; grind
            rw [s12 _ jl.1 this] at z4
            exact g10 h2 j j0 (by grind) ⟨z1, z2, z3, z4⟩
      · -- nothing of it is there
        left
        have hz : svp rest (ix lbl n5) (op - n4) = 0 := by
          unfold svp
          rw [hrest, if_pos (by grind)]; grind
        refine ⟨_, sv_zero lc oc g1 h1 h2 o0 o1 L0 L1 hf (Or.inr (by rw [hz]; decide)), ⟨by dsimp only; grind, by dsimp only; grind, by rw [hz]; grind, by rw [hz]; grind, ?_, ?_, ?_, g8, g9, ?_⟩, msr_lt h1⟩
        · refine ⟨k1, k2, k3, k4, k5, k6, ?_, k8, k9, k10, k11, k12, k13, k14⟩
          intro l l0 l1
          show ix (upd rest (ix lbl n5).toNatClampNeg (ix rest (ix lbl n5) - svp rest (ix lbl n5) (op - n4))) l = _
          have u : ix (upd rest (ix lbl n5).toNatClampNeg (ix rest (ix lbl n5) - svp rest (ix lbl n5) (op - n4))) l = if l = ix lbl n5 then ix rest (ix lbl n5) - svp rest (ix lbl n5) (op - n4) else ix rest l := upd_at L0 l0
          rw [u]
          by_cases e : l = ix lbl n5
          · rw [if_pos e, hz, Int32.sub_zero, e]; exact hrest
          · rw [if_neg e]; exact k7 l l0 l1
        · dsimp only; rw [hz, Int32.add_zero]; exact g6
        · dsimp only; rw [hz, Int32.add_zero]; exact g7
        · intro hlt j j0 j1
          dsimp only at hlt j1 ⊢
          by_cases e : j = n5
          · rw [e]; exact fun z => hp z.2.2.2
          · exact g10 h2 j j0 (by grind)
    · left
      refine ⟨_, sv_no lc oc g1 h1 h2 o0 o1 L0 L1 hf, ⟨by dsimp only; grind, by dsimp only; grind, g3, g4, g5, g6, g7, g8, g9, ?_⟩, msr_lt h1⟩
      intro hlt j j0 j1
      dsimp only at hlt j1 ⊢
      by_cases e : j = n5
      · rw [e]; exact fun z => hf ⟨z.1, z.2.1, z.2.2.1⟩
      · exact g10 h2 j j0 (by grind)
