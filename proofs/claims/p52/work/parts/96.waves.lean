/-! ===== a wave: what is given, and from where ===== -/
/-- the places that were given from, as the model keeps them -/
def mkw (plc : Int32) (c : Nat → Int32) : Nat → Int32 := fun j => if j - 159 < plc.toNatClampNeg ∧ c (j - 159) = 2 then 1 else 0
theorem mkw_at {plc n : Int32} {c : Nat → Int32} (h0 : 0 ≤ n) (h1 : n < 48) (p0 : 0 ≤ plc) : ix (mkw plc c) (159 + n) = if n < plc ∧ ix c n = 2 then 1 else 0 := by
  have e : (159 + n).toNatClampNeg - 159 = n.toNatClampNeg := by
    rw [tn_add (by decide) h0 (by decide) (by grind)]
    show 159 + n.toNatClampNeg - 159 = _
    omega
  show mkw plc c (159 + n).toNatClampNeg = _
  unfold mkw
  rw [e]
  have e2 : n.toNatClampNeg < plc.toNatClampNeg ↔ n < plc := by
    constructor
    · intro z
      have a := i_le.mp h0
      have b := i_le.mp p0
      rw [show (0 : Int32).toInt = 0 from rfl] at a b
      have c1 : n.toNatClampNeg = n.toInt.toNat := rfl
      have c2 : plc.toNatClampNeg = plc.toInt.toNat := rfl
      rw [i_lt]; omega
    · exact fun z => tn_lt h0 z
  by_cases q : n < plc ∧ ix c n = 2
  · rw [if_pos q, if_pos ⟨e2.mpr q.1, q.2⟩]
  · rw [if_neg q, if_neg (fun z => q ⟨e2.mp z.1, z.2⟩)]
theorem pick_mk {l part plc : Int32} {pk pk' : Int64} {a b c pbd a' b' c' : Nat → Int32} (p0 : 0 ≤ plc) (hc : plc ≤ 48) (hk : QK plc pk (mkw plc c)) (h : f_X5_pick l part plc pk a b c pbd = some (pk', a', b', c')) : QK plc pk' (mkw plc c') := by
  unfold f_X5_pick at h
  obtain ⟨x1, x2, x3, x4, hl, h⟩ := ob4 h
  suffices key : QK plc x1 (mkw plc x4) by
    cases h
    exact key
  refine lp_inv (g := fun z : Int32 × Int32 × Int64 × (Nat → Int32) × (Nat → Int32) × (Nat → Int32) => f_X5_pick_L5 l plc pbd z.1 z.2.1 z.2.2.1 z.2.2.2.1 z.2.2.2.2.1 z.2.2.2.2.2) (fun s => QK plc s.2.2.1 (mkw plc s.2.2.2.2.2)) (fun d => QK plc d.1 (mkw plc d.2.2.2)) ?_ ?_ fu (part, 0, pk, a, b, c) (x1, x2, x3, x4) hk hl
  · rintro ⟨n3, n4, k, la, pi, mk⟩ s' g hs
    dsimp only at g hs
    unfold f_X5_pick_L5 f_X5_pick_L5_J86 at hs
    split at hs
    · cases hs
    split at hs
    · cases hs
    obtain ⟨-, hs⟩ := ob_d hs
    obtain ⟨r4, h4, hs⟩ := ob1 hs
    split at hs
    · cases hs; exact g
    · rename_i hr
      obtain ⟨-, hs⟩ := ob_d hs
      obtain ⟨-, hs⟩ := ob_d hs
      obtain ⟨y1, y2, y3, h5, hs⟩ := ob3 hs
      have hx : 0 ≤ pbd n4.toNatClampNeg ∧ pbd n4.toNatClampNeg < plc := by
        by_cases z : 0 ≤ pbd n4.toNatClampNeg ∧ pbd n4.toNatClampNeg < plc
        · exact z
        · unfold f_X5_isWith at h4
          rw [n_exP _ _ hc, if_neg z] at h4
          simp only [bnd1, Option.bind_some, ↓reduceIte] at h4
          exact absurd (Option.some.inj h4).symm hr
      rw [n_set hc hx.1 hx.2] at h5
      cases h5
      cases hs
      refine QK_set g hx.1 hx.2 hc (fun n n0 n1 => ?_)
      rw [mkw_at n0 n1 p0, mkw_at n0 n1 p0]
      by_cases e : n = pbd n4.toNatClampNeg
      · rw [if_pos e, if_pos ⟨by rw [e]; exact hx.2, by rw [e]; exact upd_same⟩]
      · rw [if_neg e]
        have e2 : ix (upd mk (pbd n4.toNatClampNeg).toNatClampNeg 2) n = ix mk n := upd_ne hx.1 n0 e
        rw [e2]
  · rintro ⟨n3, n4, k, la, pi, mk⟩ d g hs
    dsimp only at g hs
    unfold f_X5_pick_L5 f_X5_pick_L5_J86 at hs
    split at hs
    · cases hs; exact g
    split at hs
    · cases hs; exact g
    obtain ⟨-, hs⟩ := ob_d hs
    obtain ⟨r4, h4, hs⟩ := ob1 hs
    split at hs
    · cases hs
    · obtain ⟨-, hs⟩ := ob_d hs
      obtain ⟨-, hs⟩ := ob_d hs
      obtain ⟨y1, y2, y3, h5, hs⟩ := ob3 hs
      cases hs
abbrev X9.pk (x : X9) : Int64 := x.1
abbrev X9.mk (x : X9) : Nat → Int32 := x.2.2.2.1
abbrev X9.oha (x : X9) : Nat → Int32 := x.2.2.2.2.2.2.1
/-- what an order has more than before is of lots that fit it -/
def HF (ocn : Int32) (lpr lla lst opr odu oli h0 h1 : Nat → Int32) : Prop := ∀ q l : Int32, 0 ≤ q → q < ocn → 0 ≤ l → l < 24 → 1 ≤ ix h1 (q * 24 + l) → 1 ≤ ix h0 (q * 24 + l) ∨ SF q lpr lla lst opr odu oli l
theorem HF.rf {ocn : Int32} {lpr lla lst opr odu oli h0 : Nat → Int32} : HF ocn lpr lla lst opr odu oli h0 h0 := fun _ _ _ _ _ _ h => Or.inl h
theorem serve_ft {o op plc lcn ocn : Int32} {pbd lpr lla lst lbl opr odu oli h0 : Nat → Int32} {x : X9} {d : SvR} (p0 : 0 ≤ plc) (hc : plc ≤ 48) (lc0 : 0 ≤ lcn) (lc : lcn ≤ 24) (oc : ocn ≤ 40) (o0 : 0 ≤ o) (o1 : o < ocn) (hop : 0 ≤ op) (hl : ∀ n : Int32, 0 ≤ n → n < lcn → 0 ≤ ix lbl n ∧ ix lbl n < lcn) (hk : QK plc x.pk (mkw plc x.mk)) (hf : HF ocn lpr lla lst opr odu oli h0 x.oha)
    (hd : loop (sv o 1 op plc pbd lcn lpr lla lst lbl ocn opr odu oli) fu (0, 0, x) = some d) :
    QK plc (X9.pk d.2) (mkw plc (X9.mk d.2)) ∧ HF ocn lpr lla lst opr odu oli h0 (X9.oha d.2) := by
  refine lp_inv (g := sv o 1 op plc pbd lcn lpr lla lst lbl ocn opr odu oli) (fun s => 0 ≤ s.2.1 ∧ QK plc (X9.pk s.2.2) (mkw plc (X9.mk s.2.2)) ∧ HF ocn lpr lla lst opr odu oli h0 (X9.oha s.2.2)) (fun d => QK plc (X9.pk d.2) (mkw plc (X9.mk d.2)) ∧ HF ocn lpr lla lst opr odu oli h0 (X9.oha d.2)) ?_ ?_ fu (0, 0, x) d ⟨by dsimp only; decide, hk, hf⟩ hd
  · rintro ⟨n4, n5, pk, a, b, c, gif, oop, oha, ost, rest⟩ s' ⟨g0, g1, g2⟩ hs
    dsimp only [X9.pk, X9.mk, X9.oha] at g0 g1 g2
    by_cases hend : lcn ≤ n5 ∨ op ≤ n4
    · rw [sv_end hend] at hs; simp at hs
    · have h1 : n5 < lcn := by clear g1 g2; grind
      have h2 : n4 < op := by clear g1 g2; grind
      have h3 : 0 ≤ n5 + 1 := by clear g1 g2; grind
      obtain ⟨L0, L1⟩ := hl n5 g0 h1
      by_cases hf : SF o lpr lla lst opr odu oli (ix lbl n5)
      · by_cases hp : 1 ≤ svp rest (ix lbl n5) (op - n4)
        · cases hk : f_X5_pick (ix lbl n5) (svp rest (ix lbl n5) (op - n4)) plc pk a b c pbd with
          | none => rw [sv_none lc oc g0 h1 h2 o0 o1 L0 L1 hf hp hk] at hs; exact absurd hs (by simp)
          | some v =>
            obtain ⟨pk', a', b', c'⟩ := v
            rw [sv_real lc oc g0 h1 h2 o0 o1 L0 L1 hf hp hk] at hs
            have hs := Sum.inl.inj (Option.some.inj hs)
            rw [← hs]
            refine ⟨h3, pick_mk p0 hc g1 hk, fun q l q0 q1 l0 l1 z => ?_⟩
            dsimp only [X9.oha] at z
            have L24 : ix lbl n5 < 24 := Int32.lt_of_lt_of_le L1 lc
            have q40 : q < 40 := Int32.lt_of_lt_of_le q1 oc
            have o40 : o < 40 := Int32.lt_of_lt_of_le o1 oc
            have i0 : 0 ≤ o * 24 + ix lbl n5 := by clear g1 g2 hl hf hp hk hs z; grind
            have j0 : 0 ≤ q * 24 + l := by clear g1 g2 hl hf hp hk hs z; grind
            by_cases e : q * 24 + l = o * 24 + ix lbl n5
            · obtain ⟨e1, e2⟩ := mul24 q0 q40 o0 o40 l0 l1 L0 L24 e
              rw [e1, e2]
              exact Or.inr hf
            · have e2 : ix (upd oha (o * 24 + ix lbl n5).toNatClampNeg (ix oha (o * 24 + ix lbl n5) + svp rest (ix lbl n5) (op - n4))) (q * 24 + l) = ix oha (q * 24 + l) := upd_ne i0 j0 e
              rw [e2] at z
              exact g2 q l q0 q1 l0 l1 z
        · rw [sv_zero lc oc g0 h1 h2 o0 o1 L0 L1 hf (Or.inr (by clear g1 g2; grind))] at hs
          have hs := Sum.inl.inj (Option.some.inj hs)
          rw [← hs]
          exact ⟨h3, g1, g2⟩
      · rw [sv_no lc oc g0 h1 h2 o0 o1 L0 L1 hf] at hs
        have hs := Sum.inl.inj (Option.some.inj hs)
        rw [← hs]
        exact ⟨h3, g1, g2⟩
  · rintro ⟨n4, n5, pk, a, b, c, gif, oop, oha, ost, rest⟩ d' ⟨g0, g1, g2⟩ hs
    dsimp only [X9.pk, X9.mk, X9.oha] at g0 g1 g2
    by_cases hend : lcn ≤ n5 ∨ op ≤ n4
    · rw [sv_end hend] at hs
      have hs := Sum.inr.inj (Option.some.inj hs)
      rw [← hs]
      exact ⟨g1, g2⟩
    · exfalso
      have h1 : n5 < lcn := by clear g1 g2; grind
      have h2 : n4 < op := by clear g1 g2; grind
      obtain ⟨L0, L1⟩ := hl n5 g0 h1
      by_cases hf : SF o lpr lla lst opr odu oli (ix lbl n5)
      · by_cases hp : 1 ≤ svp rest (ix lbl n5) (op - n4)
        · cases hk : f_X5_pick (ix lbl n5) (svp rest (ix lbl n5) (op - n4)) plc pk a b c pbd with
          | none => rw [sv_none lc oc g0 h1 h2 o0 o1 L0 L1 hf hp hk] at hs; exact absurd hs (by simp)
          | some v =>
            obtain ⟨pk', a', b', c'⟩ := v
            rw [sv_real lc oc g0 h1 h2 o0 o1 L0 L1 hf hp hk] at hs; simp at hs
        · rw [sv_zero lc oc g0 h1 h2 o0 o1 L0 L1 hf (Or.inr (by clear g1 g2; grind))] at hs; simp at hs
      · rw [sv_no lc oc g0 h1 h2 o0 o1 L0 L1 hf] at hs; simp at hs
/-- the wave's walk over the orders -/
def wvl (plc : Int32) (pbd : Nat → Int32) (lcn : Int32) (lpr lla lst lbl : Nat → Int32) (ocn : Int32) (opr odu oli obd : Nat → Int32) (z : Int32 × Int32 × X9) : Option ((Int32 × Int32 × X9) ⊕ (Int32 × X9)) :=
  if ocn ≤ z.2.1 then some (.inr (z.1, z.2.2))
  else gd z.2.1 40 (bnd10 (f_X7_serve (obd z.2.1.toNatClampNeg) 1 plc z.2.2.1 z.2.2.2.1 z.2.2.2.2.1 z.2.2.2.2.2.1 pbd lcn lpr lla lst lbl ocn z.2.2.2.2.2.2.1 opr z.2.2.2.2.2.2.2.1 odu oli z.2.2.2.2.2.2.2.2.1 z.2.2.2.2.2.2.2.2.2.1 z.2.2.2.2.2.2.2.2.2.2) (fun r o1 o2 o3 o4 o5 o6 o7 o8 o9 => some (.inl (z.1 + r, z.2.1 + 1, o1, o2, o3, o4, o5, o6, o7, o8, o9))))
section WV
variable {tod prods lan pos rom gp plc lcn ocn gif : Int32} {pkd : Int64} {plot ppc pmk pbd lpr lla lco lst lbl ocu opr oop odu oli obd oha ost rest w : Nat → Int32}
theorem wave_ft (hD : QD tod prods lan pos rom gp plc lcn ocn w) (hLs : QLs lcn lla lbl) (hOs : QLs ocn odu obd) (ho : ∀ o : Int32, 0 ≤ o → o < ocn → 0 ≤ ix oop o ∧ ix oop o ≤ 50) (hr : ∀ l : Int32, 0 ≤ l → l < lcn → 0 ≤ ix rest l) (hm : ∀ n : Int32, 0 ≤ n → n < plc → ix pmk n ≠ 2) {d : Int32 × X9}
    (hd : loop (wvl plc pbd lcn lpr lla lst lbl ocn opr odu oli obd) fu (0, 0, 0, plot, ppc, pmk, gif, oop, oha, ost, rest) = some d) :
    isum (ix (X9.oop d.2)) ocn.toNatClampNeg + d.1 = isum (ix oop) ocn.toNatClampNeg ∧ QK plc (X9.pk d.2) (mkw plc (X9.mk d.2)) ∧ HF ocn lpr lla lst opr odu oli oha (X9.oha d.2) := by
  obtain ⟨d0, d1, d2, d3, d4, d5, d6, d7, d8, d9, d10, d11, d12, d13, d14, d15, d16, d17, d18, d19, d20, d21, d22, d23, d24, d25, d26⟩ := hD
  have p0 : 0 ≤ plc := by clear hLs hOs ho hr hm hd; grind
  have hk0 : QK plc 0 (mkw plc pmk) := by
    refine ⟨by decide, fun n n0 n1 => Or.inl ⟨?_, ?_⟩⟩
    · rw [mkw_at n0 n1 p0, if_neg (fun z => hm n n0 z.1 z.2)]
    · rw [Int64.zero_shiftRight]; rfl
  refine (lp_inv (g := wvl plc pbd lcn lpr lla lst lbl ocn opr odu oli obd) (fun s => 0 ≤ s.2.1 ∧ (∀ l : Int32, 0 ≤ l → l < lcn → 0 ≤ ix (X9.rst s.2.2) l) ∧ (∀ o : Int32, 0 ≤ o → o < ocn → ix (X9.oop s.2.2) o ≤ 50 ∧ 0 ≤ ix (X9.oop s.2.2) o) ∧ isum (ix (X9.oop s.2.2)) ocn.toNatClampNeg + s.1 = isum (ix oop) ocn.toNatClampNeg ∧ QK plc (X9.pk s.2.2) (mkw plc (X9.mk s.2.2)) ∧ HF ocn lpr lla lst opr odu oli oha (X9.oha s.2.2)) (fun d => isum (ix (X9.oop d.2)) ocn.toNatClampNeg + d.1 = isum (ix oop) ocn.toNatClampNeg ∧ QK plc (X9.pk d.2) (mkw plc (X9.mk d.2)) ∧ HF ocn lpr lla lst opr odu oli oha (X9.oha d.2)) ?_ ?_ fu (0, 0, 0, plot, ppc, pmk, gif, oop, oha, ost, rest) d ⟨by dsimp only; decide, hr, fun o o0 o1 => ⟨(ho o o0 o1).2, (ho o o0 o1).1⟩, by dsimp only [X9.oop]; rw [Int32.add_zero], hk0, HF.rf⟩ hd)
  · rintro ⟨n, k, x⟩ s' ⟨g1, g2, g3, g4, g5, g6⟩ hs
    dsimp only at g1 g2 g3 g4 g5 g6
    unfold wvl at hs
    dsimp only at hs
    split at hs
    · cases hs
    rename_i hk
    have hk' : k < ocn := Int32.not_le.mp hk
    obtain ⟨-, hs⟩ := ob_d hs
    obtain ⟨q0, q1⟩ := hOs.1 k g1 hk'
    have e0 : obd k.toNatClampNeg = ix obd k := rfl
    rw [e0, serve_eq d26 q0 q1] at hs
    obtain ⟨r, o1, o2, o3, o4, o5, o6, o7, o8, o9, h5, hs⟩ := ob10 hs
    cases hs
    have hop := g3 _ q0 q1
    have e1 : (ix x.2.2.2.2.2.1 (ix obd k)) = ix (X9.oop x) (ix obd k) := rfl
    rw [e1] at h5
    obtain ⟨k1, k2, k3⟩ := serve_keep (x := x) d22 d23 d26 q0 q1 hop.2 hop.1 hLs.1 g2 rfl h5
    obtain ⟨m1, m2⟩ := serve_ft (x := x) p0 d17 d22 d23 d26 q0 q1 hop.2 hLs.1 g5 g6 h5
    have rr : 0 ≤ r ∧ r ≤ ix (X9.oop x) (ix obd k) := by
      refine lp_inv (g := sv (ix obd k) 1 (ix (X9.oop x) (ix obd k)) plc pbd lcn lpr lla lst lbl ocn opr odu oli) (fun s => 0 ≤ s.1 ∧ s.1 ≤ ix (X9.oop x) (ix obd k) ∧ 0 ≤ s.2.1 ∧ ∀ l : Int32, 0 ≤ l → l < lcn → 0 ≤ ix (X9.rst s.2.2) l) (fun d => 0 ≤ d.1 ∧ d.1 ≤ ix (X9.oop x) (ix obd k)) ?_ ?_ fu (0, 0, x.1, x.2.1, x.2.2.1, x.2.2.2.1, x.2.2.2.2.1, x.2.2.2.2.2.1, x.2.2.2.2.2.2.1, x.2.2.2.2.2.2.2.1, x.2.2.2.2.2.2.2.2) (r, o1, o2, o3, o4, o5, o6, o7, o8, o9) ⟨by dsimp only; decide, hop.2, by dsimp only; decide, g2⟩ h5
      · rintro ⟨n4, n5, pk, a, b, c, gi, op', oh, os, re⟩ s' ⟨f1, f2, f3, f4⟩ hs
        dsimp only [X9.rst] at f1 f2 f3 f4
        generalize hopd : ix (X9.oop x) (ix obd k) = op at *
        by_cases hend : lcn ≤ n5 ∨ op ≤ n4
        · rw [sv_end hend] at hs; simp at hs
        · have h1 : n5 < lcn := by clear g2 g3 g4 g5 g6 k1 k3 m1 m2 f4 hs h5; grind
          have h2 : n4 < op := by clear g2 g3 g4 g5 g6 k1 k3 m1 m2 f4 hs h5; grind
          obtain ⟨L0, L1⟩ := hLs.1 n5 f3 h1
          obtain ⟨s1, s2, s3, s4⟩ := sv_step d23 d26 f3 h1 h2 q0 q1 L0 L1 (f4 _ L0 L1) f1 hs
          obtain ⟨t1, t2, t3, t4⟩ := tk_rng (o := ix obd k) (L := ix lbl n5) (left := op - n4) (lpr := lpr) (lla := lla) (lst := lst) (opr := opr) (odu := odu) (oli := oli) (rest := re) (by clear g2 g3 g4 g5 g6 k1 k3 m1 m2 f4 hs h5 s3 s4; grind) (f4 _ L0 L1)
          generalize tk (ix obd k) lpr lla lst opr odu oli re (ix lbl n5) (op - n4) = t at *
          refine ⟨by rw [s1]; clear g2 g3 g4 g5 g6 k1 k3 m1 m2 f4 hs h5 s3 s4; grind, by rw [s1]; clear g2 g3 g4 g5 g6 k1 k3 m1 m2 f4 hs h5 s3 s4; grind, by rw [s2]; clear g2 g3 g4 g5 g6 k1 k3 m1 m2 f4 hs h5 s3 s4; grind, fun l l0 l1 => ?_⟩
          rw [s3 l l0]
          by_cases e : l = ix lbl n5
          · rw [if_pos e, e]; clear g2 g3 g4 g5 g6 k1 k3 m1 m2 f4 hs h5 s3 s4; grind
          · rw [if_neg e]; exact f4 l l0 l1
      · rintro ⟨n4, n5, pk, a, b, c, gi, op', oh, os, re⟩ d' ⟨f1, f2, f3, f4⟩ hs
        dsimp only [X9.rst] at f1 f2 f3 f4
        by_cases hend : lcn ≤ n5 ∨ ix (X9.oop x) (ix obd k) ≤ n4
        · rw [sv_end hend] at hs
          have hs := Sum.inr.inj (Option.some.inj hs)
          rw [← hs]
          exact ⟨f1, f2⟩
        · exfalso
          have h1 : n5 < lcn := by clear g2 g3 g4 g5 g6 k1 k3 m1 m2 f4 hs h5; grind
          have h2 : n4 < ix (X9.oop x) (ix obd k) := by clear g2 g3 g4 g5 g6 k1 k3 m1 m2 f4 hs h5; grind
          obtain ⟨L0, L1⟩ := hLs.1 n5 f3 h1
          by_cases hf : SF (ix obd k) lpr lla lst opr odu oli (ix lbl n5)
          · by_cases hp : 1 ≤ svp re (ix lbl n5) (ix (X9.oop x) (ix obd k) - n4)
            · cases hk : f_X5_pick (ix lbl n5) (svp re (ix lbl n5) (ix (X9.oop x) (ix obd k) - n4)) plc pk a b c pbd with
              | none => rw [sv_none d23 d26 f3 h1 h2 q0 q1 L0 L1 hf hp hk] at hs; exact absurd hs (by simp)
              | some v =>
                obtain ⟨pk', a', b', c'⟩ := v
                rw [sv_real d23 d26 f3 h1 h2 q0 q1 L0 L1 hf hp hk] at hs; simp at hs
            · rw [sv_zero d23 d26 f3 h1 h2 q0 q1 L0 L1 hf (Or.inr (by clear g2 g3 g4 g5 g6 k1 k3 m1 m2 f4 hs h5; grind))] at hs; simp at hs
          · rw [sv_no d23 d26 f3 h1 h2 q0 q1 L0 L1 hf] at hs; simp at hs
    refine ⟨by clear g2 g3 g4 g5 g6 k1 k3 m1 m2 h5; grind, fun l l0 l1 => (k1 l l0 l1).1, fun o z0 z1 => ?_, ?_, m1, m2⟩
    · by_cases e : o = ix obd k
      · rw [e]
        have k2' : ix (X9.oop (o1, o2, o3, o4, o5, o6, o7, o8, o9)) (ix obd k) = ix (X9.oop x) (ix obd k) - r := k2
        rw [k2']
        have a := hop.1
        have b := hop.2
        clear g2 g3 g4 g5 g6 k1 k3 m1 m2 h5 k2 k2'
        grind
      · have := k3 o z0 e
        dsimp only at this ⊢
        rw [this]
        exact g3 o z0 z1
    · have k2' : ix (X9.oop (o1, o2, o3, o4, o5, o6, o7, o8, o9)) (ix obd k) = ix (X9.oop x) (ix obd k) - r := k2
      have e := isum_upd (F := ix (X9.oop x)) (G := ix (X9.oop (o1, o2, o3, o4, o5, o6, o7, o8, o9))) q0 q1 (fun n n0 n1 n2 => k3 n n0 n2)
      rw [k2'] at e
      dsimp only at e g4 ⊢
      rw [e, ← g4]
      clear g2 g3 g4 g5 g6 k1 k3 m1 m2 h5 k2 k2' e
      grind
  · rintro ⟨n, k, x⟩ d' ⟨g1, g2, g3, g4, g5, g6⟩ hs
    dsimp only at g1 g2 g3 g4 g5 g6
    unfold wvl at hs
    dsimp only at hs
    split at hs
    · cases hs
      exact ⟨g4, g5, g6⟩
    · obtain ⟨-, hs⟩ := ob_d hs
      obtain ⟨r, o1, o2, o3, o4, o5, o6, o7, o8, o9, h5, hs⟩ := ob10 hs
      cases hs
end WV
