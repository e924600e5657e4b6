/-! ===== what a wave would leave: a dry run ===== -/
/-- a loop follows another that ends -/
theorem lp_follow {σ τ ε δ : Type} {f : σ → Option (σ ⊕ ε)} {g : τ → Option (τ ⊕ δ)} (Inv : σ → τ → Prop) (Post : ε → δ → Prop)
    (h1 : ∀ s t t', Inv s t → g t = some (.inl t') → ∃ s', f s = some (.inl s') ∧ Inv s' t')
    (h2 : ∀ s t d, Inv s t → g t = some (.inr d) → ∃ e, f s = some (.inr e) ∧ Post e d) :
    ∀ n s t d, Inv s t → loop g n t = some d → ∃ e, loop f n s = some e ∧ Post e d := by
  intro n
  induction n with
  | zero => intro s t d _ h; simp [loop] at h
  | succ n ih =>
    intro s t d hi hd
    simp only [loop] at hd ⊢
    cases hg : g t with
    | none => rw [hg] at hd; simp at hd
    | some v =>
      rw [hg] at hd
      cases v with
      | inl t' =>
        obtain ⟨s', k1, k2⟩ := h1 s t t' hi hg
        rw [k1]
        exact ih s' t' d k2 hd
      | inr d' =>
        obtain ⟨e, k1, k2⟩ := h2 s t d' hi hg
        rw [k1]
        have : d' = d := by simpa using hd
        exact ⟨e, rfl, by rw [← this]; exact k2⟩
/-- what a loop that ends keeps -/
theorem lp_inv {τ δ : Type} {g : τ → Option (τ ⊕ δ)} (Inv : τ → Prop) (Post : δ → Prop)
    (h1 : ∀ t t', Inv t → g t = some (.inl t') → Inv t') (h2 : ∀ t d, Inv t → g t = some (.inr d) → Post d) :
    ∀ n t d, Inv t → loop g n t = some d → Post d := by
  intro n t d hi hd
  obtain ⟨e, -, k⟩ := lp_follow (f := g) (g := g) (fun s t => s = t ∧ Inv t) (fun _ d => Post d)
    (fun s t t' q hg => ⟨t', by rw [q.1]; exact hg, rfl, h1 t t' q.2 hg⟩) (fun s t d q hg => ⟨d, by rw [q.1]; exact hg, h2 t d q.2 hg⟩) n t t d ⟨rfl, hi⟩ hd
  exact k
abbrev X9.rst (x : X9) : Nat → Int32 := x.2.2.2.2.2.2.2.2
/-- what an order takes of a lot -/
def tk (o : Int32) (lpr lla lst opr odu oli rest : Nat → Int32) (L left : Int32) : Int32 := if ix lpr L = ix opr o ∧ ix lst L = 0 ∧ ix odu o + ix oli o ≤ ix lla L then svp rest L left else 0
theorem sv_none {o op plc lcn ocn n4 n5 gif : Int32} {pk : Int64} {pbd lpr lla lst lbl opr odu oli a b c oop oha ost rest : Nat → Int32} (lc : lcn ≤ 24) (oc : ocn ≤ 40) (h1 : 0 ≤ n5) (h2 : n5 < lcn) (h3 : n4 < op) (o0 : 0 ≤ o) (o1 : o < ocn) (L0 : 0 ≤ ix lbl n5) (L1 : ix lbl n5 < lcn) (hf : SF o lpr lla lst opr odu oli (ix lbl n5)) (hp : 1 ≤ svp rest (ix lbl n5) (op - n4))
    (hk : f_X5_pick (ix lbl n5) (svp rest (ix lbl n5) (op - n4)) plc pk a b c pbd = none) :
    sv o 1 op plc pbd lcn lpr lla lst lbl ocn opr odu oli (n4, n5, pk, a, b, c, gif, oop, oha, ost, rest) = none := by
  have b5 : lbl n5.toNatClampNeg = ix lbl n5 := rfl
  have b6 : opr o.toNatClampNeg = ix opr o := rfl
  have b7 : rest (ix lbl n5).toNatClampNeg = ix rest (ix lbl n5) := rfl
  have b8 : (if ix rest (ix lbl n5) < op - n4 then ix rest (ix lbl n5) else op - n4) = svp rest (ix lbl n5) (op - n4) := rfl
  unfold sv f_X7_serve_L35 f_X7_serve_L35_J182
  rw [if_neg (by grind), if_neg (by grind), gd_24 h1 (by grind), gd_40 o0 (by grind), n_wanted oc o0 o1]
  simp only [bnd1, Option.bind_some]
  rw [b5, b6, n_isFit lc L0 L1]
  unfold SF at hf
  simp only [Option.bind_some, if_pos hf, if_neg one_ne]
  rw [gd_24 L0 (by grind), gd_24 L0 (by grind), gd_24 L0 (by grind), b7, b8, if_neg (by grind), hk]
  simp only [bnd4, Option.bind_none]
/-- a dry step -/
theorem sv_dry {o op plc lcn ocn n4 n5 gif : Int32} {pk : Int64} {pbd lpr lla lst lbl opr odu oli a b c oop oha ost rest : Nat → Int32} (lc : lcn ≤ 24) (oc : ocn ≤ 40) (h1 : 0 ≤ n5) (h2 : n5 < lcn) (h3 : n4 < op) (o0 : 0 ≤ o) (o1 : o < ocn) (L0 : 0 ≤ ix lbl n5) (L1 : ix lbl n5 < lcn) :
    ∃ rest', sv o 0 op plc pbd lcn lpr lla lst lbl ocn opr odu oli (n4, n5, pk, a, b, c, gif, oop, oha, ost, rest) = some (.inl (n4 + tk o lpr lla lst opr odu oli rest (ix lbl n5) (op - n4), n5 + 1, pk, a, b, c, gif, oop, oha, ost, rest')) ∧
      ∀ l : Int32, 0 ≤ l → ix rest' l = if l = ix lbl n5 then ix rest l - tk o lpr lla lst opr odu oli rest (ix lbl n5) (op - n4) else ix rest l := by
  by_cases hf : SF o lpr lla lst opr odu oli (ix lbl n5)
  · refine ⟨_, by rw [sv_zero lc oc h1 h2 h3 o0 o1 L0 L1 hf (Or.inl rfl)]; unfold tk; unfold SF at hf; rw [if_pos hf], fun l l0 => ?_⟩
    unfold tk; unfold SF at hf; rw [if_pos hf]
    have : ix (upd rest (ix lbl n5).toNatClampNeg (ix rest (ix lbl n5) - svp rest (ix lbl n5) (op - n4))) l = if l = ix lbl n5 then ix rest (ix lbl n5) - svp rest (ix lbl n5) (op - n4) else ix rest l := upd_at L0 l0
    rw [this]
    by_cases e : l = ix lbl n5
    · rw [if_pos e, if_pos e, e]
    · rw [if_neg e, if_neg e]
  · refine ⟨rest, by rw [sv_no lc oc h1 h2 h3 o0 o1 L0 L1 hf]; unfold tk; unfold SF at hf; rw [if_neg hf, Int32.add_zero], fun l l0 => ?_⟩
    unfold tk; unfold SF at hf; rw [if_neg hf, Int32.sub_zero]
    split <;> rfl
/-- a real step -/
theorem sv_step {o op plc lcn ocn n4 n5 gif : Int32} {pk : Int64} {pbd lpr lla lst lbl opr odu oli a b c oop oha ost rest : Nat → Int32} {s' : SvT} (lc : lcn ≤ 24) (oc : ocn ≤ 40) (h1 : 0 ≤ n5) (h2 : n5 < lcn) (h3 : n4 < op) (o0 : 0 ≤ o) (o1 : o < ocn) (L0 : 0 ≤ ix lbl n5) (L1 : ix lbl n5 < lcn) (hr : 0 ≤ ix rest (ix lbl n5)) (n40 : 0 ≤ n4)
    (hs : sv o 1 op plc pbd lcn lpr lla lst lbl ocn opr odu oli (n4, n5, pk, a, b, c, gif, oop, oha, ost, rest) = some (.inl s')) :
    s'.1 = n4 + tk o lpr lla lst opr odu oli rest (ix lbl n5) (op - n4) ∧ s'.2.1 = n5 + 1 ∧ (∀ l : Int32, 0 ≤ l → ix (X9.rst s'.2.2) l = if l = ix lbl n5 then ix rest l - tk o lpr lla lst opr odu oli rest (ix lbl n5) (op - n4) else ix rest l) ∧
      ∀ n : Int32, 0 ≤ n → ix (X9.oop s'.2.2) n = if n = o then ix oop n - tk o lpr lla lst opr odu oli rest (ix lbl n5) (op - n4) else ix oop n := by
  have U : ∀ l v : Int32, 0 ≤ l → ix (upd rest (ix lbl n5).toNatClampNeg v) l = if l = ix lbl n5 then v else ix rest l := fun l v l0 => upd_at L0 l0
  have V : ∀ n v : Int32, 0 ≤ n → ix (upd oop o.toNatClampNeg v) n = if n = o then v else ix oop n := fun n v n0 => upd_at o0 n0
  by_cases hf : SF o lpr lla lst opr odu oli (ix lbl n5)
  · have ht : tk o lpr lla lst opr odu oli rest (ix lbl n5) (op - n4) = svp rest (ix lbl n5) (op - n4) := by unfold tk; unfold SF at hf; rw [if_pos hf]
    rw [ht]
    by_cases hp : 1 ≤ svp rest (ix lbl n5) (op - n4)
    · cases hk : f_X5_pick (ix lbl n5) (svp rest (ix lbl n5) (op - n4)) plc pk a b c pbd with
      | none => rw [sv_none lc oc h1 h2 h3 o0 o1 L0 L1 hf hp hk] at hs; exact absurd hs (by simp)
      | some v =>
        obtain ⟨pk', a', b', c'⟩ := v
        rw [sv_real lc oc h1 h2 h3 o0 o1 L0 L1 hf hp hk] at hs
        have hs := Sum.inl.inj (Option.some.inj hs)
        rw [← hs]
        refine ⟨rfl, rfl, fun l l0 => ?_, fun n n0 => ?_⟩
        · dsimp only [X9.rst]; rw [U l _ l0]
          by_cases e : l = ix lbl n5
          · rw [if_pos e, if_pos e, e]
          · rw [if_neg e, if_neg e]
        · dsimp only [X9.oop]; rw [V n _ n0]
          by_cases e : n = o
          · rw [if_pos e, if_pos e, e]
          · rw [if_neg e, if_neg e]
    · have hz : svp rest (ix lbl n5) (op - n4) = 0 := by
        unfold svp at hp ⊢
        split at hp <;> grind
      rw [sv_zero lc oc h1 h2 h3 o0 o1 L0 L1 hf (Or.inr (by rw [hz]; decide))] at hs
      have hs := Sum.inl.inj (Option.some.inj hs)
      rw [← hs]
      rw [hz]
      refine ⟨rfl, rfl, fun l l0 => ?_, fun n n0 => ?_⟩
      · dsimp only [X9.rst]; rw [U l _ l0]
        by_cases e : l = ix lbl n5
        · rw [if_pos e, if_pos e, e]
        · rw [if_neg e, if_neg e]
      · dsimp only [X9.oop]; rw [Int32.sub_zero]; split <;> rfl
  · have ht : tk o lpr lla lst opr odu oli rest (ix lbl n5) (op - n4) = 0 := by unfold tk; unfold SF at hf; rw [if_neg hf]
    rw [ht]
    rw [sv_no lc oc h1 h2 h3 o0 o1 L0 L1 hf] at hs
    have hs := Sum.inl.inj (Option.some.inj hs)
    rw [← hs]
    refine ⟨by dsimp only; rw [Int32.add_zero], rfl, fun l l0 => ?_, fun n n0 => ?_⟩
    · dsimp only [X9.rst]; rw [Int32.sub_zero]; split <;> rfl
    · dsimp only [X9.oop]; rw [Int32.sub_zero]; split <;> rfl
theorem tk_rng {o L left : Int32} {lpr lla lst opr odu oli rest : Nat → Int32} (h0 : 0 ≤ left) (hr : 0 ≤ ix rest L) : 0 ≤ tk o lpr lla lst opr odu oli rest L left ∧ tk o lpr lla lst opr odu oli rest L left ≤ left ∧ tk o lpr lla lst opr odu oli rest L left ≤ ix rest L ∧ (ix lpr L ≠ ix opr o → tk o lpr lla lst opr odu oli rest L left = 0) := by
  unfold tk svp
  split
  · rename_i h
    refine ⟨?_, ?_, ?_, fun z => absurd h.1 z⟩ <;> split <;> grind
  · exact ⟨by decide, h0, hr, fun _ => rfl⟩
theorem tk_eq {o L left : Int32} {lpr lla lst opr odu oli rest rest' : Nat → Int32} (h : ix rest L = ix rest' L) : tk o lpr lla lst opr odu oli rest L left = tk o lpr lla lst opr odu oli rest' L left := by
  unfold tk svp; rw [h]
/-- an order served: what it does to the open pieces and the rest -/
theorem serve_keep {o op plc lcn ocn : Int32} {pbd lpr lla lst lbl opr odu oli : Nat → Int32} {x : X9} {d : SvR} (lc0 : 0 ≤ lcn) (lc : lcn ≤ 24) (oc : ocn ≤ 40) (o0 : 0 ≤ o) (o1 : o < ocn) (hop : 0 ≤ op) (hop2 : op ≤ 50) (hl : ∀ n : Int32, 0 ≤ n → n < lcn → 0 ≤ ix lbl n ∧ ix lbl n < lcn) (hr : ∀ l : Int32, 0 ≤ l → l < lcn → 0 ≤ ix x.rst l) (ho : ix x.oop o = op)
    (hd : loop (sv o 1 op plc pbd lcn lpr lla lst lbl ocn opr odu oli) fu (0, 0, x) = some d) :
    (∀ l : Int32, 0 ≤ l → l < lcn → 0 ≤ ix (X9.rst d.2) l ∧ (ix lpr l ≠ ix opr o → ix (X9.rst d.2) l = ix x.rst l)) ∧ ix (X9.oop d.2) o = op - d.1 ∧ ∀ n : Int32, 0 ≤ n → n ≠ o → ix (X9.oop d.2) n = ix x.oop n := by
  refine lp_inv (g := sv o 1 op plc pbd lcn lpr lla lst lbl ocn opr odu oli) (fun s => 0 ≤ s.1 ∧ s.1 ≤ op ∧ 0 ≤ s.2.1 ∧ s.2.1 ≤ lcn ∧ (∀ l : Int32, 0 ≤ l → l < lcn → 0 ≤ ix (X9.rst s.2.2) l ∧ (ix lpr l ≠ ix opr o → ix (X9.rst s.2.2) l = ix x.rst l)) ∧ ix (X9.oop s.2.2) o = op - s.1 ∧ ∀ n : Int32, 0 ≤ n → n ≠ o → ix (X9.oop s.2.2) n = ix x.oop n) (fun d => (∀ l : Int32, 0 ≤ l → l < lcn → 0 ≤ ix (X9.rst d.2) l ∧ (ix lpr l ≠ ix opr o → ix (X9.rst d.2) l = ix x.rst l)) ∧ ix (X9.oop d.2) o = op - d.1 ∧ ∀ n : Int32, 0 ≤ n → n ≠ o → ix (X9.oop d.2) n = ix x.oop n) ?_ ?_ fu (0, 0, x) d ⟨by dsimp only; decide, hop, by dsimp only; decide, lc0, fun l l0 l1 => ⟨hr l l0 l1, fun _ => rfl⟩, by dsimp only; rw [ho, Int32.sub_zero], fun _ _ _ => rfl⟩ hd
  · rintro ⟨n4, n5, pk, a, b, c, gif, oop, oha, ost, rest⟩ s' ⟨g1, g2, g3, g4, g5, g6, g7⟩ hs
    dsimp only [X9.rst, X9.oop] at g1 g2 g3 g4 g5 g6 g7
    by_cases hend : lcn ≤ n5 ∨ op ≤ n4
    · rw [sv_end hend] at hs; simp at hs
    · have h1 : n5 < lcn := by grind
      have h2 : n4 < op := by grind
      obtain ⟨L0, L1⟩ := hl n5 g3 h1
      obtain ⟨s1, s2, s3, s4⟩ := sv_step lc oc g3 h1 h2 o0 o1 L0 L1 (g5 _ L0 L1).1 g1 hs
      obtain ⟨t1, t2, t3, t4⟩ := tk_rng (o := o) (L := ix lbl n5) (left := op - n4) (lpr := lpr) (lla := lla) (lst := lst) (opr := opr) (odu := odu) (oli := oli) (rest := rest) (by grind) (g5 _ L0 L1).1
      generalize tk o lpr lla lst opr odu oli rest (ix lbl n5) (op - n4) = t at *
      refine ⟨by rw [s1]; grind, by rw [s1]; grind, by rw [s2]; grind, by rw [s2]; grind, fun l l0 l1 => ?_, ?_, fun n n0 n1 => ?_⟩
      · rw [s3 l l0]
        by_cases e : l = ix lbl n5
        · rw [if_pos e]
          refine ⟨by rw [e]; grind, fun z => ?_⟩
          rw [t4 (by rw [← e]; exact z), Int32.sub_zero]
          exact (g5 l l0 l1).2 z
        · rw [if_neg e]; exact g5 l l0 l1
      · rw [s4 o o0, if_pos rfl, g6, s1]; grind
      · rw [s4 n n0, if_neg n1]; exact g7 n n0 n1
  · rintro ⟨n4, n5, pk, a, b, c, gif, oop, oha, ost, rest⟩ d' ⟨g1, g2, g3, g4, g5, g6, g7⟩ hs
    dsimp only [X9.rst, X9.oop] at g1 g2 g3 g4 g5 g6 g7
    by_cases hend : lcn ≤ n5 ∨ op ≤ n4
    · rw [sv_end hend] at hs
      have hs := Sum.inr.inj (Option.some.inj hs)
      rw [← hs]
      exact ⟨g5, g6, g7⟩
    · exfalso
      have h1 : n5 < lcn := by grind
      have h2 : n4 < op := by grind
      obtain ⟨L0, L1⟩ := hl n5 g3 h1
      by_cases hf : SF o lpr lla lst opr odu oli (ix lbl n5)
      · by_cases hp : 1 ≤ svp rest (ix lbl n5) (op - n4)
        · cases hk : f_X5_pick (ix lbl n5) (svp rest (ix lbl n5) (op - n4)) plc pk a b c pbd with
          | none => rw [sv_none lc oc g3 h1 h2 o0 o1 L0 L1 hf hp hk] at hs; exact absurd hs (by simp)
          | some v =>
            obtain ⟨pk', a', b', c'⟩ := v
            rw [sv_real lc oc g3 h1 h2 o0 o1 L0 L1 hf hp hk] at hs; simp at hs
        · rw [sv_zero lc oc g3 h1 h2 o0 o1 L0 L1 hf (Or.inr (by grind))] at hs; simp at hs
      · rw [sv_no lc oc g3 h1 h2 o0 o1 L0 L1 hf] at hs; simp at hs
/-- an order served dry, beside the real one -/
theorem serve_dry {o op plc lcn ocn : Int32} {pbd lpr lla lst lbl opr odu oli rest0 : Nat → Int32} {x : X9} {d : SvR} {y : Int64 × (Nat → Int32) × (Nat → Int32) × (Nat → Int32) × Int32 × (Nat → Int32) × (Nat → Int32) × (Nat → Int32)} (lc0 : 0 ≤ lcn) (lc : lcn ≤ 24) (oc : ocn ≤ 40) (o0 : 0 ≤ o) (o1 : o < ocn) (hop : 0 ≤ op) (hop2 : op ≤ 50) (hl : ∀ n : Int32, 0 ≤ n → n < lcn → 0 ≤ ix lbl n ∧ ix lbl n < lcn) (hr : ∀ l : Int32, 0 ≤ l → l < lcn → 0 ≤ ix x.rst l)
    (he : ∀ l : Int32, 0 ≤ l → l < lcn → ix lpr l = ix opr o → ix rest0 l = ix x.rst l)
    (hd : loop (sv o 1 op plc pbd lcn lpr lla lst lbl ocn opr odu oli) fu (0, 0, x) = some d) :
    ∃ rest', loop (sv o 0 op plc pbd lcn lpr lla lst lbl ocn opr odu oli) fu (0, 0, y.1, y.2.1, y.2.2.1, y.2.2.2.1, y.2.2.2.2.1, y.2.2.2.2.2.1, y.2.2.2.2.2.2.1, y.2.2.2.2.2.2.2, rest0) = some (d.1, y.1, y.2.1, y.2.2.1, y.2.2.2.1, y.2.2.2.2.1, y.2.2.2.2.2.1, y.2.2.2.2.2.2.1, y.2.2.2.2.2.2.2, rest') ∧ ∀ l : Int32, 0 ≤ l → l < lcn → ix lpr l = ix opr o → ix rest' l = ix (X9.rst d.2) l := by
  obtain ⟨e, k1, k2⟩ := lp_follow (f := sv o 0 op plc pbd lcn lpr lla lst lbl ocn opr odu oli) (g := sv o 1 op plc pbd lcn lpr lla lst lbl ocn opr odu oli)
    (fun s t => s.1 = t.1 ∧ s.2.1 = t.2.1 ∧ (∃ r', s = (s.1, s.2.1, y.1, y.2.1, y.2.2.1, y.2.2.2.1, y.2.2.2.2.1, y.2.2.2.2.2.1, y.2.2.2.2.2.2.1, y.2.2.2.2.2.2.2, r') ∧ ∀ l : Int32, 0 ≤ l → l < lcn → ix lpr l = ix opr o → ix r' l = ix (X9.rst t.2.2) l) ∧ 0 ≤ t.1 ∧ t.1 ≤ op ∧ 0 ≤ t.2.1 ∧ t.2.1 ≤ lcn ∧ (∀ l : Int32, 0 ≤ l → l < lcn → 0 ≤ ix (X9.rst t.2.2) l))
    (fun e d => ∃ rest', e = (d.1, y.1, y.2.1, y.2.2.1, y.2.2.2.1, y.2.2.2.2.1, y.2.2.2.2.2.1, y.2.2.2.2.2.2.1, y.2.2.2.2.2.2.2, rest') ∧ ∀ l : Int32, 0 ≤ l → l < lcn → ix lpr l = ix opr o → ix rest' l = ix (X9.rst d.2) l)
    (by
      rintro ⟨m4, m5, s2⟩ ⟨n4, n5, pk, a, b, c, gif, oop, oha, ost, rest⟩ t' ⟨g1, g2, ⟨r', g3, g4⟩, g5, g6, g7, g8, g9⟩ hs
      dsimp only [X9.rst] at g1 g2 g3 g4 g5 g6 g7 g8 g9
      rw [g3]
      subst g1 g2
      by_cases hend : lcn ≤ m5 ∨ op ≤ m4
      · rw [sv_end hend] at hs; simp at hs
      · have h1 : m5 < lcn := by grind
        have h2 : m4 < op := by grind
        obtain ⟨L0, L1⟩ := hl m5 g7 h1
        obtain ⟨s1, s2, s3, s4⟩ := sv_step lc oc g7 h1 h2 o0 o1 L0 L1 (g9 _ L0 L1) g5 hs
        obtain ⟨rest', u1, u2⟩ := sv_dry (pk := y.1) (a := y.2.1) (b := y.2.2.1) (c := y.2.2.2.1) (gif := y.2.2.2.2.1) (oop := y.2.2.2.2.2.1) (oha := y.2.2.2.2.2.2.1) (ost := y.2.2.2.2.2.2.2) (rest := r') (plc := plc) (pbd := pbd) (lpr := lpr) (lla := lla) (lst := lst) (opr := opr) (odu := odu) (oli := oli) lc oc g7 h1 h2 o0 o1 L0 L1
        obtain ⟨t1, t2, t3, t4⟩ := tk_rng (o := o) (L := ix lbl m5) (left := op - m4) (lpr := lpr) (lla := lla) (lst := lst) (opr := opr) (odu := odu) (oli := oli) (rest := rest) (by grind) (g9 _ L0 L1)
        have hte : tk o lpr lla lst opr odu oli r' (ix lbl m5) (op - m4) = tk o lpr lla lst opr odu oli rest (ix lbl m5) (op - m4) := by
          by_cases e : ix lpr (ix lbl m5) = ix opr o
          · exact tk_eq (g4 _ L0 L1 e)
          · unfold tk
            rw [if_neg (fun z => e z.1), if_neg (fun z => e z.1)]
        rw [hte] at u1 u2
        generalize tk o lpr lla lst opr odu oli rest (ix lbl m5) (op - m4) = t at *
        refine ⟨_, u1, s1.symm, s2.symm, ⟨rest', rfl, fun l l0 l1 le => ?_⟩, by rw [s1]; grind, by rw [s1]; grind, by rw [s2]; grind, by rw [s2]; grind, fun l l0 l1 => ?_⟩
        · rw [u2 l l0, s3 l l0, g4 l l0 l1 le]
        · rw [s3 l l0]
          by_cases e : l = ix lbl m5
          · rw [if_pos e, e]; grind
          · rw [if_neg e]; exact g9 l l0 l1)
    (by
      rintro ⟨m4, m5, s2⟩ ⟨n4, n5, pk, a, b, c, gif, oop, oha, ost, rest⟩ d' ⟨g1, g2, ⟨r', g3, g4⟩, g5, g6, g7, g8, g9⟩ hs
      dsimp only [X9.rst] at g1 g2 g3 g4 g5 g6 g7 g8 g9
      rw [g3]
      subst g1 g2
      by_cases hend : lcn ≤ m5 ∨ op ≤ m4
      · rw [sv_end hend] at hs ⊢
        have hs := Sum.inr.inj (Option.some.inj hs)
        rw [← hs]
        exact ⟨_, rfl, r', rfl, g4⟩
      · exfalso
        have h1 : m5 < lcn := by grind
        have h2 : m4 < op := by grind
        obtain ⟨L0, L1⟩ := hl m5 g7 h1
        by_cases hf : SF o lpr lla lst opr odu oli (ix lbl m5)
        · by_cases hp : 1 ≤ svp rest (ix lbl m5) (op - m4)
          · cases hk : f_X5_pick (ix lbl m5) (svp rest (ix lbl m5) (op - m4)) plc pk a b c pbd with
            | none => rw [sv_none lc oc g7 h1 h2 o0 o1 L0 L1 hf hp hk] at hs; exact absurd hs (by simp)
            | some v =>
              obtain ⟨pk', a', b', c'⟩ := v
              rw [sv_real lc oc g7 h1 h2 o0 o1 L0 L1 hf hp hk] at hs; simp at hs
          · rw [sv_zero lc oc g7 h1 h2 o0 o1 L0 L1 hf (Or.inr (by grind))] at hs; simp at hs
        · rw [sv_no lc oc g7 h1 h2 o0 o1 L0 L1 hf] at hs; simp at hs)
    fu (0, 0, y.1, y.2.1, y.2.2.1, y.2.2.2.1, y.2.2.2.2.1, y.2.2.2.2.2.1, y.2.2.2.2.2.2.1, y.2.2.2.2.2.2.2, rest0) (0, 0, x) d ⟨rfl, rfl, ⟨rest0, rfl, he⟩, by dsimp only; decide, hop, by dsimp only; decide, lc0, hr⟩ hd
  obtain ⟨rest', e1, e2⟩ := k2
  exact ⟨rest', by rw [k1, e1], e2⟩
/-- a sum in another order -/
theorem isum_perm {N : Int32} {f : Nat → Int32} {F : Int32 → Int32} (h0 : 0 ≤ N) (h1 : ∀ n : Int32, 0 ≤ n → n < N → 0 ≤ ix f n ∧ ix f n < N) (h2 : ∀ a b : Int32, 0 ≤ a → a < N → 0 ≤ b → b < N → ix f a = ix f b → a = b) (h3 : ∀ l : Int32, 0 ≤ l → l < N → ∃ n : Int32, 0 ≤ n ∧ n < N ∧ ix f n = l) : isum (fun k => F (ix f k)) N.toNatClampNeg = isum F N.toNatClampNeg := by
  have e1 : isum (fun k => F (ix f k)) N.toNatClampNeg = isum (fun k => isum (fun l => if ix f k = l then F l else 0) N.toNatClampNeg) N.toNatClampNeg := by
    refine isum_eq fun k k0 k1 => ?_
    have b := h1 k k0 k1
    rw [← isum_single (x := F (ix f k)) b.1 b.2]
    refine isum_eq fun l l0 l1 => ?_
    by_cases e : ix f k = l
    · rw [if_pos e, if_pos e, e]
    · rw [if_neg e, if_neg e]
  rw [e1, isum_swap]
  refine isum_eq fun l l0 l1 => ?_
  obtain ⟨n, n0, n1, n2⟩ := h3 l l0 l1
  refine Eq.trans (isum_eq fun k k0 k1 => ?_) (isum_single (x := F l) n0 n1)
  by_cases e : ix f k = l
  · rw [if_pos e, if_pos (h2 n k n0 n1 k0 k1 (by rw [n2, e]))]
  · rw [if_neg e, if_neg (fun z => e (by rw [← z]; exact n2))]
theorem n_isOf {ocn n p : Int32} {opr : Nat → Int32} (hc : ocn ≤ 40) (h1 : 0 ≤ n) (h2 : n < ocn) : f_X2_isOf n p ocn opr = some (if ix opr n = p then 1 else 0) := by
  have hp : 0 ≤ n ∧ n < ocn := ⟨h1, h2⟩
  unfold f_X2_isOf
  rw [n_exO n ocn hc, if_pos hp]
  simp only [bnd1, Option.bind_some]
  rw [if_neg one_ne, gd_40 h1 (by grind)]
  by_cases e : ix opr n = p
  · rw [if_pos e]
    have : opr n.toNatClampNeg = p := e
    rw [if_pos this]
  · rw [if_neg e]
    have : ¬ opr n.toNatClampNeg = p := e
    rw [if_neg this]
/-- what is open of a product's orders -/
def opn (p ocn : Int32) (opr oop : Nat → Int32) : Int32 := isum (fun k => if ix opr k = p then ix oop k else 0) ocn.toNatClampNeg
abbrev Y9 : Type := Int64 × (Nat → Int32) × (Nat → Int32) × (Nat → Int32) × Int32 × (Nat → Int32) × (Nat → Int32) × (Nat → Int32)
def dl (p plc : Int32) (pbd : Nat → Int32) (lcn : Int32) (lpr lla lst lbl : Nat → Int32) (ocn : Int32) (opr odu oli obd : Nat → Int32) (z : Int32 × Int32 × X9) : Option ((Int32 × Int32 × X9) ⊕ (Int32 × X9)) :=
  f_X7_leftOpen_L18 p plc pbd lcn lpr lla lst lbl ocn opr odu oli obd z.1 z.2.1 z.2.2.1 z.2.2.2.1 z.2.2.2.2.1 z.2.2.2.2.2.1 z.2.2.2.2.2.2.1 z.2.2.2.2.2.2.2.1 z.2.2.2.2.2.2.2.2.1 z.2.2.2.2.2.2.2.2.2.1 z.2.2.2.2.2.2.2.2.2.2
abbrev yx (y : Y9) (r : Nat → Int32) : X9 := (y.1, y.2.1, y.2.2.1, y.2.2.2.1, y.2.2.2.2.1, y.2.2.2.2.2.1, y.2.2.2.2.2.2.1, y.2.2.2.2.2.2.2, r)
theorem s_dry {p plc lcn ocn prods : Int32} {pbd lpr lla lst lbl ocu opr odu oli obd w0 rest0 : Nat → Int32} {x : X9} {y : Y9} {g : Int32 × Int32 × X9 → Option ((Int32 × Int32 × X9) ⊕ (Int32 × X9))} {d : Int32 × X9} (lc0 : 0 ≤ lcn) (lc : lcn ≤ 24) (c0 : 0 ≤ ocn) (oc : ocn ≤ 40)
    (hL : ∀ n : Int32, 0 ≤ n → n < lcn → 0 ≤ ix lbl n ∧ ix lbl n < lcn) (hO : QO ocn prods ocu opr x.oop odu oli w0) (hOs : QLs ocn odu obd) (hr : ∀ l : Int32, 0 ≤ l → l < lcn → 0 ≤ ix x.rst l) (hy : y.2.2.2.2.2.1 = x.oop)
    (hre : ∀ l : Int32, 0 ≤ l → l < lcn → ix rest0 l = ix x.rst l)
    (he : ∀ n k x, ocn ≤ k → g (n, k, x) = some (.inr (n, x)))
    (hs : ∀ n k (x : X9), 0 ≤ k → k < ocn → g (n, k, x) = bnd10 (f_X7_serve (ix obd k) 1 plc x.1 x.2.1 x.2.2.1 x.2.2.2.1 pbd lcn lpr lla lst lbl ocn x.2.2.2.2.1 opr x.2.2.2.2.2.1 odu oli x.2.2.2.2.2.2.1 x.2.2.2.2.2.2.2.1 x.2.2.2.2.2.2.2.2) (fun r o1 o2 o3 o4 o5 o6 o7 o8 o9 => some (.inl (n + r, k + 1, o1, o2, o3, o4, o5, o6, o7, o8, o9))))
    (hd : loop g fu (0, 0, x) = some d) :
    ∃ rest', loop (dl p plc pbd lcn lpr lla lst lbl ocn opr odu oli obd) fu (0, 0, yx y rest0) = some (opn p ocn opr (X9.oop d.2), yx y rest') := by
  have inj : ∀ a b : Int32, 0 ≤ a → a < ocn → 0 ≤ b → b < ocn → ix obd a = ix obd b → a = b := by
    intro a b a0 a1 b0 b1 z
    by_cases e : a = b
    · exact e
    · exfalso
      by_cases e2 : a < b
      · have := hOs.2.1 a b a0 e2 b1
        rw [z] at this; grind
      · have := hOs.2.1 b a b0 (by grind) a1
        rw [z] at this; grind
  obtain ⟨e, k1, k2⟩ := lp_follow (f := dl p plc pbd lcn lpr lla lst lbl ocn opr odu oli obd) (g := g)
    (fun s t => s.2.1 = t.2.1 ∧ 0 ≤ t.2.1 ∧ t.2.1 ≤ ocn ∧ s.1 = isum (fun j => if ix opr (ix obd j) = p then ix (X9.oop t.2.2) (ix obd j) else 0) t.2.1.toNatClampNeg ∧ (∀ j : Int32, t.2.1 ≤ j → j < ocn → ix (X9.oop t.2.2) (ix obd j) = ix x.oop (ix obd j)) ∧ (∀ l : Int32, 0 ≤ l → l < lcn → 0 ≤ ix (X9.rst t.2.2) l) ∧ ∃ r', s.2.2 = yx y r' ∧ ∀ l : Int32, 0 ≤ l → l < lcn → ix lpr l = p → ix r' l = ix (X9.rst t.2.2) l)
    (fun e d => e.1 = isum (fun j => if ix opr (ix obd j) = p then ix (X9.oop d.2) (ix obd j) else 0) ocn.toNatClampNeg ∧ ∃ r', e.2 = yx y r')
    (by
      rintro ⟨n', k', x'⟩ ⟨n, k, t⟩ t' ⟨g1, g2, g3, g4, g5, g6, r', g7, g8⟩ hg
      dsimp only at g1 g2 g3 g4 g5 g6 g7 g8
      subst g1 g4 g7
      by_cases hk : ocn ≤ k'
      · rw [he _ _ _ hk] at hg; simp at hg
      · have hk' : k' < ocn := by grind
        obtain ⟨O0, O1⟩ := hOs.1 k' g2 hk'
        rw [hs _ _ _ g2 hk', serve_eq oc O0 O1] at hg
        have g5k := g5 k' (by grind) hk'
        have rng := hO _ O0 O1
        have op0 : 0 ≤ ix x.oop (ix obd k') := rng.2.2.2.2.2.2.2.1
        have op1 : ix x.oop (ix obd k') ≤ 50 := rng.2.2.2.2.2.2.2.2.1
        have g5k' : ix t.2.2.2.2.2.1 (ix obd k') = ix x.oop (ix obd k') := g5k
        rw [g5k'] at hg
        have hg' : bnd10 (loop (sv (ix obd k') 1 (ix x.oop (ix obd k')) plc pbd lcn lpr lla lst lbl ocn opr odu oli) fu (0, 0, t)) (fun r o1 o2 o3 o4 o5 o6 o7 o8 o9 => some (.inl (n + r, k' + 1, o1, o2, o3, o4, o5, o6, o7, o8, o9))) = some (Sum.inl t') := hg
        cases hv : loop (sv (ix obd k') 1 (ix x.oop (ix obd k')) plc pbd lcn lpr lla lst lbl ocn opr odu oli) fu (0, 0, t) with
        | none => rw [hv] at hg'; exact absurd hg' (by simp [bnd10])
        | some q =>
          rw [hv] at hg'
          have ht : t' = (n + q.1, k' + 1, q.2) := (Sum.inl.inj (Option.some.inj hg')).symm
          obtain ⟨s1, s2, s3⟩ := serve_keep lc0 lc oc O0 O1 op0 op1 hL g6 g5k hv
          have hne : ∀ j : Int32, 0 ≤ j → j < ocn → j ≠ k' → ix (X9.oop q.2) (ix obd j) = ix t.oop (ix obd j) := fun j j0 j1 jk => s3 _ (hOs.1 j j0 j1).1 (fun z => jk (inj j k' j0 j1 g2 hk' z))
          have tn : (k' + 1).toNatClampNeg = k'.toNatClampNeg + 1 := tn_inc g2 (by grind)
          have hsum : isum (fun j => if ix opr (ix obd j) = p then ix (X9.oop q.2) (ix obd j) else 0) (k' + 1).toNatClampNeg = isum (fun j => if ix opr (ix obd j) = p then ix t.oop (ix obd j) else 0) k'.toNatClampNeg + (if ix opr (ix obd k') = p then ix x.oop (ix obd k') - q.1 else 0) := by
            rw [tn]
            show isum _ k'.toNatClampNeg + _ = _
            rw [of_tn g2]
            show isum _ k'.toNatClampNeg + (if ix opr (ix obd k') = p then ix (X9.oop q.2) (ix obd k') else 0) = _
            rw [s2]
            congr 1
            refine isum_eq fun j j0 j1 => ?_
            rw [hne j j0 (by grind) (by grind)]
          have ne : ¬ ocn ≤ k' := hk
          by_cases hp : ix opr (ix obd k') = p
          · obtain ⟨rest', u1, u2⟩ := serve_dry (y := y) (rest0 := r') lc0 lc oc O0 O1 op0 op1 hL g6 (fun l l0 l1 le => g8 l l0 l1 (by rw [le, hp])) hv
            refine ⟨(isum (fun j => if ix opr (ix obd j) = p then ix t.oop (ix obd j) else 0) k'.toNatClampNeg + (ix x.oop (ix obd k') - q.1), k' + 1, yx y rest'), ?_, ?_⟩
            · unfold dl f_X7_leftOpen_L18 f_X7_leftOpen_L18_J86
              dsimp only
              rw [if_neg hk, gd_40 g2 (by grind)]
              have b5 : obd k'.toNatClampNeg = ix obd k' := rfl
              rw [b5, n_isOf oc O0 O1, if_pos hp]
              simp only [bnd1, Option.bind_some]
              rw [if_neg one_ne, gd_40 O0 (by grind), serve_eq oc O0 O1]
              have b6 : ix y.2.2.2.2.2.1 (ix obd k') = ix x.oop (ix obd k') := by rw [hy]
              rw [b6, u1]
              simp only [bnd10, Option.bind_some]
              have b7 : y.2.2.2.2.2.1 (ix obd k').toNatClampNeg = ix x.oop (ix obd k') := b6
              rw [b7]
            · rw [ht]
              refine ⟨rfl, by dsimp only; grind, by dsimp only; grind, ?_, fun j j0 j1 => ?_, fun l l0 l1 => (s1 l l0 l1).1, rest', rfl, fun l l0 l1 le => ?_⟩
              · dsimp only; rw [hsum, if_pos hp]
              · dsimp only at j0 ⊢; rw [hne j (by grind) j1 (by grind)]; exact g5 j (by grind) j1
              · exact u2 l l0 l1 (by rw [le, hp])
          · refine ⟨(isum (fun j => if ix opr (ix obd j) = p then ix t.oop (ix obd j) else 0) k'.toNatClampNeg, k' + 1, yx y r'), ?_, ?_⟩
            · unfold dl f_X7_leftOpen_L18 f_X7_leftOpen_L18_J86
              dsimp only
              rw [if_neg hk, gd_40 g2 (by grind)]
              have b5 : obd k'.toNatClampNeg = ix obd k' := rfl
              rw [b5, n_isOf oc O0 O1, if_neg hp]
              simp only [bnd1, Option.bind_some, ↓reduceIte]
            · rw [ht]
              refine ⟨rfl, by dsimp only; grind, by dsimp only; grind, ?_, fun j j0 j1 => ?_, fun l l0 l1 => (s1 l l0 l1).1, r', rfl, fun l l0 l1 le => ?_⟩
              · dsimp only; rw [hsum, if_neg hp, Int32.add_zero]
              · dsimp only at j0 ⊢; rw [hne j (by grind) j1 (by grind)]; exact g5 j (by grind) j1
              · rw [g8 l l0 l1 le]; exact ((s1 l l0 l1).2 (fun z => hp (by rw [← z]; exact le))).symm)
    (by
      rintro ⟨n', k', x'⟩ ⟨n, k, t⟩ d' ⟨g1, g2, g3, g4, g5, g6, r', g7, g8⟩ hg
      dsimp only at g1 g2 g3 g4 g5 g6 g7 g8
      subst g1 g4 g7
      by_cases hk : ocn ≤ k'
      · rw [he _ _ _ hk] at hg
        have hg := Sum.inr.inj (Option.some.inj hg)
        rw [← hg]
        have hk2 : k' = ocn := by grind
        refine ⟨(isum (fun j => if ix opr (ix obd j) = p then ix t.oop (ix obd j) else 0) k'.toNatClampNeg, yx y r'), ?_, ?_, r', rfl⟩
        · unfold dl f_X7_leftOpen_L18
          dsimp only
          rw [if_pos hk]
        · dsimp only; rw [hk2]
      · exfalso
        have hk' : k' < ocn := by grind
        rw [hs _ _ _ g2 hk'] at hg
        cases hv : f_X7_serve (ix obd k') 1 plc t.1 t.2.1 t.2.2.1 t.2.2.2.1 pbd lcn lpr lla lst lbl ocn t.2.2.2.2.1 opr t.2.2.2.2.2.1 odu oli t.2.2.2.2.2.2.1 t.2.2.2.2.2.2.2.1 t.2.2.2.2.2.2.2.2 with
        | none => rw [hv] at hg; simp [bnd10] at hg
        | some q => rw [hv] at hg; simp [bnd10] at hg)
    fu (0, 0, yx y rest0) (0, 0, x) d ⟨rfl, by dsimp only; decide, c0, rfl, fun _ _ _ => rfl, hr, rest0, rfl, fun l l0 l1 _ => hre l l0 l1⟩ hd
  obtain ⟨e1, r', e2⟩ := k2
  refine ⟨r', ?_⟩
  rw [k1, ← e2]
  obtain ⟨ea, eb⟩ := e
  dsimp only at e1 ⊢
  rw [e1]
  unfold opn
  rw [isum_perm (F := fun k => if ix opr k = p then ix (X9.oop d.2) k else 0) c0 hOs.1 inj hOs.2.2]
theorem n_openOf {prods ocn p : Int32} {ocu opr oop odu oli w : Nat → Int32} (h7 : w 7 = ocn) (c0 : 0 ≤ ocn) (c1 : ocn ≤ 40) (hO : QO ocn prods ocu opr oop odu oli w) : f_Y8_openOf p w = some (opn p ocn opr oop) := by
  unfold f_Y8_openOf opn
  rw [sum_loop (F := fun k => if ix opr k = p then ix oop k else 0) c0 (by grind) ?_]
  · rfl
  · intro a n n0 n1
    unfold f_Y8_openOf_L4 f_Y8_openOf_L4_J44
    rw [gd_2450 (by decide) (by decide), show ((7 : Int32).toNatClampNeg) = 7 from rfl, h7]
    by_cases hn : ocn ≤ n
    · rw [if_pos hn, if_pos hn]
    · have rng := hO n n0 (by grind)
      have b1 : w (343 + n).toNatClampNeg = ix opr n := rng.2.2.2.1
      have b2 : w (383 + n).toNatClampNeg = ix oop n := rng.2.2.2.2.2.2.1
      rw [if_neg hn, if_neg hn, gd_2450 (by grind) (by grind), gd_2450 (by grind) (by grind), b1, b2]
      by_cases e : ix opr n = p
      · rw [if_pos e, if_pos e]
      · rw [if_neg e, if_neg e]
theorem cp_loop {w copy : Nat → Int32} : ∃ c', f_Y8_copies w copy = some c' ∧ RE w c' := by
  obtain ⟨c', h1, h2⟩ : ∃ c', loop (fun z : Int32 × (Nat → Int32) => f_Y8_copies_L2 w z.1 z.2) fu (0, copy) = some c' ∧ RE w c' := by
    refine lp_one (f := fun z : Int32 × (Nat → Int32) => f_Y8_copies_L2 w z.1 z.2) (fun s => 0 ≤ s.1 ∧ s.1 ≤ 2442 ∧ ∀ j : Nat, j < s.1.toNatClampNeg → s.2 j = w j) _ (fun z => msr z.1 2442) ?_ fu (0, copy) ⟨by dsimp only; decide, by dsimp only; decide, fun j hj => absurd hj (Nat.not_lt_zero _)⟩ (msr_fu (by dsimp only; decide) (by decide))
    rintro ⟨n, k⟩ ⟨g1, g2, g3⟩
    dsimp only at g1 g2 g3 ⊢
    unfold f_Y8_copies_L2
    by_cases hn : 2442 ≤ n
    · right
      have e1 : n = 2442 := by grind
      subst e1
      exact ⟨k, by rw [if_pos hn], g3⟩
    · left
      have hn' : n < 2442 := by grind
      have e3 := tn_add (a := n) (b := 1) g1 (by decide) (by grind) (by decide)
      have e4 : (1 : Int32).toNatClampNeg = 1 := rfl
      refine ⟨(n + 1, upd k n.toNatClampNeg (w n.toNatClampNeg)), by rw [if_neg hn, gd_2450 g1 (by grind), gd_2450 g1 (by grind)], ⟨by dsimp only; grind, by dsimp only; grind, ?_⟩, msr_lt hn'⟩
      intro j hj
      dsimp only at hj ⊢
      rw [e3, e4] at hj
      unfold upd
      by_cases hjn : j = n.toNatClampNeg
      · rw [if_pos hjn, hjn]
      · rw [if_neg hjn]
        exact g3 j (by omega)
  refine ⟨c', ?_, h2⟩
  unfold f_Y8_copies; rw [h1]; rfl
theorem rt_loop {w copy : Nat → Int32} : ∃ c', f_Y8_returns w copy = some c' ∧ RE copy c' := by
  obtain ⟨c', h1, h2⟩ := cp_loop (w := copy) (copy := w)
  refine ⟨c', ?_, h2⟩
  unfold f_Y8_copies at h1
  unfold f_Y8_returns
  exact h1
theorem opn_rng {prods ocn p : Int32} {ocu opr oop odu oli w : Nat → Int32} (c1 : ocn ≤ 40) (hO : QO ocn prods ocu opr oop odu oli w) : 0 ≤ opn p ocn opr oop := by
  have := isum_rng (F := fun k => if ix opr k = p then ix oop k else 0) (N := ocn) (b := 50) (by decide) (by grind) (by decide) (fun n n0 n1 => by
    have rng := hO n n0 n1
    have r0 : 0 ≤ ix oop n := rng.2.2.2.2.2.2.2.1
    have r1 : ix oop n ≤ 50 := rng.2.2.2.2.2.2.2.2.1
    split <;> grind)
  rw [i_le]
  exact this.1
/-- what a wave would leave open of a product, both sides -/
theorem p_left {tod prods lan pos rom gp plc lcn ocn gif p : Int32} {pkd : Int64} {plot ppc pmk pbd lpr lla lco lst lbl ocu opr oop odu oli obd oha ost crest near dn copy w : Nat → Int32}
    (hD : QD tod prods lan pos rom gp plc lcn ocn w) (hP : QP plc rom lcn plot ppc pmk w) (hL : QL lcn prods lpr lla lco lst w) (hLs : QLs lcn lla lbl) (hO : QO ocn prods ocu opr oop odu oli w) (hOs : QLs ocn odu obd) (hH : QH ocn lcn oha w) (hG : QG ocn gif oha ost w) (hS : QS ocn gif oop oha) (hR : QR plc pbd near) :
    ∃ m r' w' c' dn', f_X7_leftOpen p plc pkd plot ppc pmk pbd lcn lpr lla lst lbl ocn gif opr oop odu oli obd oha ost crest = some (m, pkd, plot, ppc, pmk, gif, oop, oha, ost, r') ∧ f_Y8_leftOpen p w copy near dn = some (m, w', c', dn') ∧ RE w w' ∧ 0 ≤ m := by
  have hD0 := hD
  obtain ⟨d0, d1, d2, d3, d4, d5, d6, d7, d8, d9, d10, d11, d12, d13, d14, d15, d16, d17, d18, d19, d20, d21, d22, d23, d24, d25, d26⟩ := hD0
  have hw : w 1 * w 2 = plc := by rw [d3, d6, d15]
  obtain ⟨rest', c1, c2⟩ := count_pof hw d16 d17 d23 hP crest
  have hrest : ∀ l : Int32, 0 ≤ l → l < lcn → ix rest' l = pof plc plot ppc l := fun l l0 l1 => c2 l l0 (by grind)
  let g : Int32 × Int32 × X9 → Option ((Int32 × Int32 × X9) ⊕ (Int32 × X9)) := fun z => if ocn ≤ z.2.1 then some (.inr (z.1, z.2.2)) else bnd10 (f_X7_serve (ix obd z.2.1) 1 plc z.2.2.1 z.2.2.2.1 z.2.2.2.2.1 z.2.2.2.2.2.1 pbd lcn lpr lla lst lbl ocn z.2.2.2.2.2.2.1 opr z.2.2.2.2.2.2.2.1 odu oli z.2.2.2.2.2.2.2.2.1 z.2.2.2.2.2.2.2.2.2.1 z.2.2.2.2.2.2.2.2.2.2) (fun r o1 o2 o3 o4 o5 o6 o7 o8 o9 => some (.inl (z.1 + r, z.2.1 + 1, o1, o2, o3, o4, o5, o6, o7, o8, o9)))
  have he : ∀ n k x, ocn ≤ k → g (n, k, x) = some (.inr (n, x)) := fun n k x hk => if_pos hk
  have hs : ∀ n k (x : X9), 0 ≤ k → k < ocn → g (n, k, x) = bnd10 (f_X7_serve (ix obd k) 1 plc x.1 x.2.1 x.2.2.1 x.2.2.2.1 pbd lcn lpr lla lst lbl ocn x.2.2.2.2.1 opr x.2.2.2.2.2.1 odu oli x.2.2.2.2.2.2.1 x.2.2.2.2.2.2.2.1 x.2.2.2.2.2.2.2.2) (fun r o1 o2 o3 o4 o5 o6 o7 o8 o9 => some (.inl (n + r, k + 1, o1, o2, o3, o4, o5, o6, o7, o8, o9))) := fun n k x k0 k1 => if_neg (by dsimp only; grind)
  clear_value g
  obtain ⟨e, w1, dn', s1, s2, s3, s4⟩ := s_wave (dn := dn) (near := near) (rest := rest') hD hP hL hLs hO hOs hH hG hS hR hrest he hs
  have pof0 : ∀ l : Int32, 0 ≤ l → l < lcn → 0 ≤ ix rest' l := fun l l0 l1 => by
    rw [hrest l l0 l1, i_le]
    exact (pof_rng (l := l) (show 0 ≤ plc by grind) d17 d11 d10 hP).1
  obtain ⟨r', t1⟩ := s_dry (p := p) (y := (pkd, plot, ppc, pmk, gif, oop, oha, ost)) (rest0 := rest') (x := (0, plot, ppc, pmk, gif, oop, oha, ost, rest')) d22 d23 d25 d26 hLs.1 hO hOs pof0 rfl (fun _ _ _ => rfl) he hs s1
  obtain ⟨c', v1, v2⟩ := cp_loop (w := w) (copy := copy)
  obtain ⟨w', u1, u2⟩ := rt_loop (w := w1) (copy := c')
  obtain ⟨k1, k2, k3, k4, k5, k6, k7, k8, k9, k10, k11, k12, k13, k14⟩ := s3
  have h7 : w1 7 = ocn := (k9 7 (by decide) (by decide)).trans d24
  refine ⟨opn p ocn opr (X9.oop e.2), r', w', c', dn', ?_, ?_, fun j hj => by rw [u2 j hj, v2 j hj], opn_rng d26 k3⟩
  · unfold f_X7_leftOpen
    rw [c1]
    simp only [bnd1, Option.bind_some]
    have t1' : loop (fun z : Int32 × Int32 × X9 => f_X7_leftOpen_L18 p plc pbd lcn lpr lla lst lbl ocn opr odu oli obd z.1 z.2.1 z.2.2.1 z.2.2.2.1 z.2.2.2.2.1 z.2.2.2.2.2.1 z.2.2.2.2.2.2.1 z.2.2.2.2.2.2.2.1 z.2.2.2.2.2.2.2.2.1 z.2.2.2.2.2.2.2.2.2.1 z.2.2.2.2.2.2.2.2.2.2) fu (0, 0, pkd, plot, ppc, pmk, gif, oop, oha, ost, rest') = some (opn p ocn opr (X9.oop e.2), yx (pkd, plot, ppc, pmk, gif, oop, oha, ost) r') := t1
    rw [t1']
    rfl
  · unfold f_Y8_leftOpen
    rw [v1]
    simp only [bnd1, Option.bind_some]
    rw [s2]
    simp only [bnd2, Option.bind_some]
    rw [n_openOf h7 d25 d26 k3]
    simp only [Option.bind_some]
    rw [u1]
    rfl
