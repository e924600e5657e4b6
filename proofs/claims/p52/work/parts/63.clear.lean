/-! ===== places that are cleared ===== -/
theorem lp_one {σ ε : Type} {f : σ → Option (σ ⊕ ε)} (Inv : σ → Prop) (Post : ε → Prop) (μ : σ → Nat)
    (h : ∀ s, Inv s → (∃ s', f s = some (.inl s') ∧ Inv s' ∧ μ s' < μ s) ∨ ∃ e, f s = some (.inr e) ∧ Post e) :
    ∀ n s, Inv s → μ s < n → ∃ e, loop f n s = some e ∧ Post e := by
  intro n
  induction n with
  | zero => intro s _ h2; exact absurd h2 (Nat.not_lt_zero _)
  | succ n ih =>
    intro s hi hm
    rcases h s hi with ⟨s', h1, h2, h3⟩ | ⟨e, h1, h2⟩
    · obtain ⟨e, h4, h5⟩ := ih s' h2 (by omega)
      exact ⟨e, by simp only [loop, h1]; exact h4, h5⟩
    · exact ⟨e, by simp only [loop, h1], h2⟩
theorem hand_ex {plc : Int32} {f : Nat → Int32} (h0 : 0 ≤ plc) (h1 : plc ≤ 48) : ∃ e, f_X5_piecesOnHand plc f = some e := by
  obtain ⟨e, q1, -⟩ := lp_one (f := fun z : Int32 × Int32 => f_X5_piecesOnHand_L4 plc f z.1 z.2) (fun z => 0 ≤ z.2 ∧ z.2 ≤ plc) (fun _ => True) (fun z => msr z.2 plc) (by
    rintro ⟨a, n⟩ ⟨g1, g2⟩
    dsimp only at g1 g2 ⊢
    unfold f_X5_piecesOnHand_L4
    by_cases hn : plc ≤ n
    · exact Or.inr ⟨a, by rw [if_pos hn], trivial⟩
    · left
      have hn' : n < plc := by grind
      exact ⟨(a + f n.toNatClampNeg, n + 1), by rw [if_neg hn, gd_48 g1 (by grind)], ⟨by dsimp only; grind, by dsimp only; grind⟩, msr_lt hn'⟩) fu (0, 0) ⟨by decide, by dsimp only; grind⟩ (msr_fu (by decide) (by grind))
  exact ⟨e, by unfold f_X5_piecesOnHand; rw [q1]; rfl⟩
theorem hand_eq {plc : Int32} {f f' : Nat → Int32} (h0 : 0 ≤ plc) (h1 : plc ≤ 48) (h : ∀ n : Int32, 0 ≤ n → n < plc → ix f' n = ix f n) {e : Int32} (he : f_X5_piecesOnHand plc f = some e) : f_X5_piecesOnHand plc f' = some e := by
  obtain ⟨e2, q1, q2, -⟩ := lp_same (f := fun z : Int32 × Int32 => f_X5_piecesOnHand_L4 plc f z.1 z.2) (g := fun z : Int32 × Int32 => f_X5_piecesOnHand_L4 plc f' z.1 z.2) (fun z => 0 ≤ z.2 ∧ z.2 ≤ plc) (fun _ => True) (fun z => msr z.2 plc) (by
    rintro ⟨a, n⟩ ⟨g1, g2⟩
    dsimp only at g1 g2 ⊢
    unfold f_X5_piecesOnHand_L4
    by_cases hn : plc ≤ n
    · exact Or.inr ⟨a, by rw [if_pos hn], by rw [if_pos hn], trivial⟩
    · left
      have hn' : n < plc := by grind
      have b1 : f' n.toNatClampNeg = f n.toNatClampNeg := h n g1 hn'
      refine ⟨(a + f n.toNatClampNeg, n + 1), ?_, ?_, ?_, msr_lt hn'⟩
      · rw [if_neg hn, gd_48 g1 (by grind)]
      · rw [if_neg hn, gd_48 g1 (by grind), b1]
      · dsimp only; grind) fu (0, 0) ⟨by decide, by dsimp only; grind⟩ (msr_fu (by decide) (by grind))
  unfold f_X5_piecesOnHand at *
  rw [q1] at he
  rw [q2]; exact he
/-- the places of P are empty with mark 5, the others as they were -/
def CLR (plc : Int32) (P : Int32 → Prop) (plot ppc pmk plot' ppc' pmk' : Nat → Int32) : Prop := ∀ n : Int32, 0 ≤ n → n < plc → (P n ∧ ix plot' n = -1 ∧ ix ppc' n = 0 ∧ ix pmk' n = 5) ∨ (¬ P n ∧ ix plot' n = ix plot n ∧ ix ppc' n = ix ppc n ∧ ix pmk' n = ix pmk n)
theorem CLR.no {plc : Int32} {P : Int32 → Prop} {plot ppc pmk : Nat → Int32} (h : ∀ n : Int32, 0 ≤ n → n < plc → ¬ P n) : CLR plc P plot ppc pmk plot ppc pmk := fun n a b => Or.inr ⟨h n a b, rfl, rfl, rfl⟩
theorem CLR.eqv {plc : Int32} {P P' : Int32 → Prop} {plot ppc pmk plot' ppc' pmk' : Nat → Int32} (q : CLR plc P plot ppc pmk plot' ppc' pmk') (h : ∀ n : Int32, 0 ≤ n → n < plc → (P n ↔ P' n)) : CLR plc P' plot ppc pmk plot' ppc' pmk' := by
  intro n a b
  have := h n a b
  rcases q n a b with ⟨g, r⟩ | ⟨g, r⟩
  · exact Or.inl ⟨this.mp g, r⟩
  · exact Or.inr ⟨fun z => g (this.mpr z), r⟩
theorem CLR.step {plc p : Int32} {P P' : Int32 → Prop} {plot ppc pmk plot' ppc' pmk' : Nat → Int32} (q : CLR plc P plot ppc pmk plot' ppc' pmk') (hp : 0 ≤ p) (h : ∀ n : Int32, 0 ≤ n → n < plc → (P' n ↔ P n ∨ n = p)) : CLR plc P' plot ppc pmk (upd plot' p.toNatClampNeg (-1)) (upd ppc' p.toNatClampNeg 0) (upd pmk' p.toNatClampNeg 5) := by
  intro n a b
  have hh := h n a b
  have u1 : ix (upd plot' p.toNatClampNeg (-1)) n = if n = p then -1 else ix plot' n := upd_at hp a
  have u2 : ix (upd ppc' p.toNatClampNeg 0) n = if n = p then 0 else ix ppc' n := upd_at hp a
  have u3 : ix (upd pmk' p.toNatClampNeg 5) n = if n = p then 5 else ix pmk' n := upd_at hp a
  rw [u1, u2, u3]
  by_cases hn : n = p
  · rw [if_pos hn, if_pos hn, if_pos hn]
    exact Or.inl ⟨hh.mpr (Or.inr hn), rfl, rfl, rfl⟩
  · rw [if_neg hn, if_neg hn, if_neg hn]
    rcases q n a b with ⟨g, r⟩ | ⟨g, r⟩
    · exact Or.inl ⟨hh.mpr (Or.inl g), r⟩
    · exact Or.inr ⟨fun z => (hh.mp z).elim g hn, r⟩
theorem CLR.uniq {plc : Int32} {P : Int32 → Prop} {plot ppc pmk l1 p1 m1 l2 p2 m2 : Nat → Int32} (q : CLR plc P plot ppc pmk l1 p1 m1) (r : CLR plc P plot ppc pmk l2 p2 m2) : ∀ n : Int32, 0 ≤ n → n < plc → ix l2 n = ix l1 n ∧ ix p2 n = ix p1 n ∧ ix m2 n = ix m1 n := by
  intro n a b
  rcases q n a b with ⟨g, x1, x2, x3⟩ | ⟨g, x1, x2, x3⟩ <;> rcases r n a b with ⟨k, y1, y2, y3⟩ | ⟨k, y1, y2, y3⟩
  · exact ⟨y1.trans x1.symm, y2.trans x2.symm, y3.trans x3.symm⟩
  · exact absurd g k
  · exact absurd k g
  · exact ⟨y1.trans x1.symm, y2.trans x2.symm, y3.trans x3.symm⟩
theorem QP_eq {plc rom lcn : Int32} {l1 p1 m1 l2 p2 m2 w : Nat → Int32} (q : QP plc rom lcn l1 p1 m1 w) (h : ∀ n : Int32, 0 ≤ n → n < plc → ix l2 n = ix l1 n ∧ ix p2 n = ix p1 n ∧ ix m2 n = ix m1 n) : QP plc rom lcn l2 p2 m2 w := by
  intro n a b
  obtain ⟨h1, h2, h3⟩ := h n a b
  rw [h1, h2, h3]; exact q n a b
/-- a lot's pieces go, at once -/
theorem s_scrapLot {plc l h : Int32} {plot ppc pmk : Nat → Int32} (h1 : 1 ≤ plc) (h2 : plc ≤ 48) (hh : f_X5_piecesOnHand plc ppc = some h) :
    ∃ e plot' ppc' pmk', f_X5_scrapLot l plc plot ppc pmk = some (e, plot', ppc', pmk') ∧ CLR plc (fun m => 1 ≤ ix ppc m ∧ ix plot m = l) plot ppc pmk plot' ppc' pmk' ∧ f_X5_piecesOnHand plc ppc' = some (h - e) ∧ f_X5_piecesOf l plc plot ppc = some e := by
  obtain ⟨r, e, q1, q2, q3, q4, q5⟩ := lp_rel (f := fun z : Int32 × Int32 × (Nat → Int32) × (Nat → Int32) × (Nat → Int32) => f_X5_scrapLot_L4 l plc z.1 z.2.1 z.2.2.1 z.2.2.2.1 z.2.2.2.2) (g := fun z : Int32 × Int32 => f_X5_piecesOf_L4 l plc plot ppc z.1 z.2)
    (fun s t => s.1 = t.1 ∧ s.2.1 = t.2 ∧ 0 ≤ t.2 ∧ t.2 ≤ plc ∧ CLR plc (fun m => m < t.2 ∧ 1 ≤ ix ppc m ∧ ix plot m = l) plot ppc pmk s.2.2.1 s.2.2.2.1 s.2.2.2.2 ∧ f_X5_piecesOnHand plc s.2.2.2.1 = some (h - t.1))
    (fun r e => r.1 = e ∧ CLR plc (fun m => 1 ≤ ix ppc m ∧ ix plot m = l) plot ppc pmk r.2.1 r.2.2.1 r.2.2.2 ∧ f_X5_piecesOnHand plc r.2.2.1 = some (h - e)) (fun z => msr z.2.1 plc) (by
    rintro ⟨a, n, c1, c2, c3⟩ ⟨a', n'⟩ ⟨x1, x2, g1, g2, g3, g4⟩
    dsimp only at x1 x2 g1 g2 g3 g4 ⊢
    subst x1 x2
    unfold f_X5_scrapLot_L4 f_X5_piecesOf_L4
    by_cases hn : plc ≤ n
    · refine Or.inr ⟨(a, c1, c2, c3), a, by rw [if_pos hn], by rw [if_pos hn], rfl, ?_, g4⟩
      exact g3.eqv (fun m m1 m2 => ⟨fun z => z.2, fun z => ⟨by grind, z⟩⟩)
    · left
      have hn' : n < plc := by grind
      have hs : ix c1 n = ix plot n ∧ ix c2 n = ix ppc n ∧ ix c3 n = ix pmk n := by
        rcases g3 n g1 hn' with ⟨⟨z, -⟩, -⟩ | ⟨-, z⟩
        · exact absurd z (by grind)
        · exact z
      have hs2 : c2 n.toNatClampNeg = ix ppc n := hs.2.1
      rw [if_neg hn, if_neg hn, n_isWith n l plc plot ppc h2 g1 hn', n_isWith n l plc c1 c2 h2 g1 hn', hs.1, hs.2.1]
      simp only [bnd1, Option.bind_some]
      by_cases hc : 1 ≤ ix ppc n ∧ ix plot n = l
      · refine ⟨(a + ix ppc n, n + 1, upd c1 n.toNatClampNeg (-1), upd c2 n.toNatClampNeg 0, upd c3 n.toNatClampNeg 5), (a + ix ppc n, n + 1), ?_, ?_, ⟨rfl, rfl, ?_, ?_, ?_, ?_⟩, msr_lt hn'⟩
        · rw [if_pos hc, if_neg one_ne, gd_48 g1 (by grind), n_set h2 g1 hn']
          simp only [bnd3, Option.bind_some]
          rw [if_pos trivial, hs2]; rfl
        · rw [if_pos hc, if_neg one_ne, gd_48 g1 (by grind)]
          rfl
        · dsimp only; grind
        · dsimp only; grind
        · refine g3.step g1 (fun m m1 m2 => ?_)
          dsimp only
          constructor
          · rintro ⟨z1, z2⟩
            by_cases hm : m = n
            · exact Or.inr hm
            · exact Or.inl ⟨by grind, z2⟩
          · rintro (⟨z1, z2⟩ | z)
            · exact ⟨by grind, z2⟩
            · subst z; exact ⟨by grind, hc⟩
        · dsimp only
          rw [hand_upd h2 g1 hn' g4, hs.2.1]
          congr 1; grind
      · refine ⟨(a, n + 1, c1, c2, c3), (a, n + 1), ?_, ?_, ⟨rfl, rfl, ?_, ?_, ?_, g4⟩, msr_lt hn'⟩
        · rw [if_neg hc, if_pos rfl]; rfl
        · rw [if_neg hc, if_pos rfl]; rfl
        · dsimp only; grind
        · dsimp only; grind
        · refine g3.eqv (fun m m1 m2 => ?_)
          dsimp only
          constructor
          · rintro ⟨z1, z2⟩; exact ⟨by grind, z2⟩
          · rintro ⟨z1, z2⟩
            by_cases hm : m = n
            · subst hm; exact absurd z2 hc
            · exact ⟨by grind, z2⟩) fu (0, 0, plot, ppc, pmk) (0, 0) ⟨rfl, rfl, by dsimp only; decide, by dsimp only; grind, CLR.no (fun m m1 m2 z => by dsimp only at z; grind), by dsimp only; rw [hh, Int32.sub_zero]⟩ (msr_fu (by dsimp only; decide) (by grind))
  obtain ⟨b, b1, b2, b3⟩ := r
  dsimp only at q3 q4 q5
  refine ⟨e, b1, b2, b3, ?_, q4, q5, ?_⟩
  · unfold f_X5_scrapLot; rw [q1, ← q3]; rfl
  · unfold f_X5_piecesOf; rw [q2]; rfl
def scr (w : Nat → Int32) (p : Int32) : Nat → Int32 := upd (upd (upd (upd w (63 + p).toNatClampNeg 0) (15 + p).toNatClampNeg (-1)) (111 + p).toNatClampNeg 5) (12 : Int32).toNatClampNeg (ix w 12 + ix w (63 + p))
theorem n_scr {p : Int32} {w : Nat → Int32} (h1 : 0 ≤ p) (h2 : p < 48) : f_Y8_scraps p (w (63 + p).toNatClampNeg) w = some (scr w p) := by
  have e : ix w (63 + p) - w (63 + p).toNatClampNeg = 0 := Int32.sub_self _
  rw [n_scraps h1 h2, e, if_pos rfl]; rfl
/-- the model's row while places go -/
def SCR (plc rom lcn h : Int32) (plot ppc pmk w : Nat → Int32) (P : Int32 → Prop) (w' : Nat → Int32) : Prop :=
  ∃ plot' ppc' pmk', QP plc rom lcn plot' ppc' pmk' w' ∧ CLR plc P plot ppc pmk plot' ppc' pmk' ∧ f_X5_piecesOnHand plc ppc' = some (h - (ix w' 12 - ix w 12)) ∧ AG 1 12 w w' ∧ AG 13 15 w w' ∧ AG 159 2450 w w'
theorem SCR.eqv {plc rom lcn h : Int32} {plot ppc pmk w w' : Nat → Int32} {P P' : Int32 → Prop} (q : SCR plc rom lcn h plot ppc pmk w P w') (hp : ∀ n : Int32, 0 ≤ n → n < plc → (P n ↔ P' n)) : SCR plc rom lcn h plot ppc pmk w P' w' := by
  obtain ⟨b1, b2, b3, q1, q2, q3⟩ := q
  exact ⟨b1, b2, b3, q1, q2.eqv hp, q3⟩
theorem SCR.step {plc rom lcn h p : Int32} {plot ppc pmk w w' : Nat → Int32} {P P' : Int32 → Prop} (q : SCR plc rom lcn h plot ppc pmk w P w') (hc : plc ≤ 48) (hr : 1 ≤ rom) (h1 : 0 ≤ p) (h2 : p < plc) (hp : ∀ n : Int32, 0 ≤ n → n < plc → (P' n ↔ P n ∨ n = p)) : SCR plc rom lcn h plot ppc pmk w P' (scr w' p) := by
  obtain ⟨b1, b2, b3, q1, q2, q3, q4, q5, q6⟩ := q
  obtain ⟨y1, y2, y3, y4, y5, y6⟩ := q1 p h1 h2
  have e12 : ix (scr w' p) 12 = ix w' 12 + ix w' (63 + p) := upd_same
  refine ⟨upd b1 p.toNatClampNeg (-1), upd b2 p.toNatClampNeg 0, upd b3 p.toNatClampNeg 5, QP_set hc q1 h1 h2 (by decide) (by grind) (Or.inl ⟨rfl, rfl⟩) ?_ ?_ ?_ ?_, q2.step h1 hp, ?_, ?_, ?_, ?_⟩
  · unfold scr ix; rw [upd_ne (by grind) (by grind) (by grind), upd_ne (by grind) (by grind) (by grind), upd_same]
  · unfold scr ix; rw [upd_ne (by grind) (by grind) (by grind), upd_ne (by grind) (by grind) (by grind), upd_ne (by grind) (by grind) (by grind), upd_same]
  · unfold scr ix; rw [upd_ne (by grind) (by grind) (by grind), upd_same]
  · intro n n1 n2 n3
    refine ⟨?_, ?_, ?_⟩ <;> (unfold scr ix; rw [upd_ne (by grind) (by grind) (by grind), upd_ne (by grind) (by grind) (by grind), upd_ne (by grind) (by grind) (by grind), upd_ne (by grind) (by grind) (by grind)])
  · rw [hand_upd hc h1 h2 q3, e12, y2]; congr 1; grind
  · exact (((q4.up (by decide) (by grind) (by grind)).up (by decide) (by grind) (by grind)).up (by decide) (by grind) (by grind)).up (by decide) (by grind) (by grind)
  · exact (((q5.up (by decide) (by grind) (by grind)).up (by decide) (by grind) (by grind)).up (by decide) (by grind) (by grind)).up (by decide) (by grind) (by grind)
  · exact (((q6.up (by decide) (by grind) (by grind)).up (by decide) (by grind) (by grind)).up (by decide) (by grind) (by grind)).up (by decide) (by grind) (by grind)
