/-- two loops side by side; the first may go on alone -/
theorem lp_tail {σ τ ε δ : Type} {f : σ → Option (σ ⊕ ε)} {g : τ → Option (τ ⊕ δ)} (Inv : σ → τ → Prop) (Post : ε → δ → Prop) (μ : σ → Nat)
    (h : ∀ s t, Inv s t → (∃ s' t', f s = some (.inl s') ∧ g t = some (.inl t') ∧ Inv s' t' ∧ μ s' < μ s) ∨ ∃ e d, g t = some (.inr d) ∧ (∀ m, μ s < m → loop f m s = some e) ∧ Post e d) :
    ∀ n s t, Inv s t → μ s < n → ∃ e d, loop f n s = some e ∧ loop g n t = some d ∧ Post e d := by
  intro n
  induction n with
  | zero => intro s t _ h2; exact absurd h2 (Nat.not_lt_zero _)
  | succ n ih =>
    intro s t hi hm
    rcases h s t hi with ⟨s', t', h1, k1, h2, h3⟩ | ⟨e, d, k1, h1, h2⟩
    · obtain ⟨e, d, h4, k4, h5⟩ := ih s' t' h2 (by omega)
      exact ⟨e, d, by simp only [loop, h1]; exact h4, by simp only [loop, k1]; exact k4, h5⟩
    · exact ⟨e, d, h1 _ hm, by simp only [loop, k1], h2⟩
theorem s_hasAll {ocn lcn v : Int32} {oha w : Nat → Int32} (hw : w 6 = lcn) (h1 : 0 ≤ lcn) (h2 : lcn ≤ 24) (hc : ocn ≤ 40) (hH : QH ocn lcn oha w) (hl : 0 ≤ v) (hl2 : v < ocn) : ∃ e, f_X2_piecesAt v ocn oha = some e ∧ f_Y8_hasAll v w = some e := by
  obtain ⟨e, d, q1, q2, q3⟩ := lp_tail (f := fun z : Int32 × Int32 => f_X2_piecesAt_L4 v ocn oha z.1 z.2) (g := fun z : Int32 × Int32 => f_Y8_hasAll_L4 v w z.1 z.2) (fun s t => s = t ∧ 0 ≤ s.2 ∧ s.2 ≤ lcn) (fun e d => e = d) (fun z => msr z.2 24) (by
    rintro ⟨a, n⟩ t ⟨rfl, g1, g2⟩
    dsimp only at g1 g2 ⊢
    by_cases hn : lcn ≤ n
    · right
      refine ⟨a, a, ?_, ?_, rfl⟩
      · unfold f_Y8_hasAll_L4
        rw [gd_2450 (by decide) (by decide), show ((6 : Int32).toNatClampNeg) = 6 from rfl, hw, if_pos hn]
      · intro m hm
        obtain ⟨e, r1, r2⟩ := lp_run (f := fun z : Int32 × Int32 => f_X2_piecesAt_L4 v ocn oha z.1 z.2) (fun s => s.1 = a ∧ lcn ≤ s.2 ∧ s.2 ≤ 24) (fun e => e = a) (fun z => msr z.2 24) (by
          rintro ⟨b, k⟩ ⟨rfl, k1, k2⟩
          dsimp only at k1 k2 ⊢
          by_cases hk : 24 ≤ k
          · exact Or.inr ⟨b, by unfold f_X2_piecesAt_L4; rw [if_pos hk], rfl⟩
          · left
            have hk' : k < 24 := by grind
            obtain ⟨-, -, -, z0⟩ := hH v k hl hl2 (by grind) hk'
            refine ⟨(b, k + 1), ?_, ⟨rfl, by dsimp only; grind, by dsimp only; grind⟩, msr_lt hk'⟩
            unfold f_X2_piecesAt_L4
            rw [if_neg hk, n_piecesOf v k ocn oha hc hl hl2 (by grind) hk', z0 k1]
            simp only [bnd1, Option.bind_some, Int32.add_zero]) m (a, n) ⟨rfl, hn, by dsimp only; grind⟩ hm
        rw [r1, r2]
    · left
      have hn' : n < lcn := by grind
      obtain ⟨e1, -⟩ := hH v n hl hl2 g1 (by grind)
      refine ⟨(a + ix oha (v * 24 + n), n + 1), (a + ix oha (v * 24 + n), n + 1), ?_, ?_, ⟨rfl, by dsimp only; grind, by dsimp only; grind⟩, msr_lt (by grind)⟩
      · unfold f_X2_piecesAt_L4
        rw [if_neg (by grind), n_piecesOf v n ocn oha hc hl hl2 g1 (by grind)]; rfl
      · unfold f_Y8_hasAll_L4
        rw [gd_2450 (by decide) (by decide), show ((6 : Int32).toNatClampNeg) = 6 from rfl, hw, if_neg hn, n_has v n w hl (by grind) g1 (by grind), e1]; rfl) fu (0, 0) (0, 0) ⟨rfl, by decide, h1⟩ (msr_fu (by decide) (by decide))
  subst q3
  exact ⟨e, by unfold f_X2_piecesAt; rw [q1]; rfl, by unfold f_Y8_hasAll; rw [q2]; rfl⟩
theorem s_all {plc rom lcn : Int32} {plot ppc pmk w : Nat → Int32} (hw : w 1 * w 2 = plc) (h1 : 1 ≤ plc) (h2 : plc ≤ 48) (hP : QP plc rom lcn plot ppc pmk w) : ∃ e, f_X5_piecesOnHand plc ppc = some e ∧ f_Y8_allPieces w = some e := by
  obtain ⟨e, q1, q2, -⟩ := lp_same (f := fun z : Int32 × Int32 => f_X5_piecesOnHand_L4 plc ppc z.1 z.2) (g := fun z : Int32 × Int32 => f_Y8_allPieces_L4 w z.1 z.2) (fun z => 0 ≤ z.2 ∧ z.2 ≤ plc) (fun _ => True) (fun z => msr z.2 plc) (by
    rintro ⟨a, n⟩ ⟨g1, g2⟩
    dsimp only at g1 g2 ⊢
    unfold f_X5_piecesOnHand_L4 f_Y8_allPieces_L4
    rw [n_places, hw]
    simp only [bnd1, Option.bind_some]
    by_cases hn : plc ≤ n
    · exact Or.inr ⟨a, by rw [if_pos hn], by rw [if_pos hn], trivial⟩
    · left
      have hn' : n < plc := by grind
      obtain ⟨e1, e2, -⟩ := hP n g1 hn'
      refine ⟨(a + ix ppc n, n + 1), ?_, ?_, ?_, msr_lt hn'⟩
      · rw [if_neg hn, gd_48 g1 (by grind)]
      · rw [if_neg hn, gd_2450 (by grind) (by grind), ← e2]
      · dsimp only; grind) fu (0, 0) ⟨by decide, by grind⟩ (msr_fu (by decide) (by grind))
  exact ⟨e, by unfold f_X5_piecesOnHand; rw [q1]; rfl, by unfold f_Y8_allPieces; rw [q2]; rfl⟩
theorem s_dist {pos gp v : Int32} {w : Nat → Int32} (hw : w 2 = pos) (hg : w 4 = gp) (h1 : 1 ≤ pos) : f_X5_distanceOf v pos gp = some (gp * (v / pos) + (v - v / pos * pos) + 1) ∧ f_Y8_distanceOf v w = some (gp * (v / pos) + (v - v / pos * pos) + 1) ∧ f_Y8_laneOf v w = some (v / pos) ∧ f_Y8_positionOf v w = some (v - v / pos * pos + 1) := by
  have h0 : pos ≠ 0 := by grind
  have a1 : f_Y8_laneOf v w = some (v / pos) := by
    unfold f_Y8_laneOf
    rw [gd_2450 (by decide) (by decide), show ((2 : Int32).toNatClampNeg) = 2 from rfl, hw, gz_ok h0]
  have a2 : f_Y8_positionOf v w = some (v - v / pos * pos + 1) := by
    unfold f_Y8_positionOf
    rw [gd_2450 (by decide) (by decide), show ((2 : Int32).toNatClampNeg) = 2 from rfl, hw, gz_ok h0]
  refine ⟨?_, ?_, a1, a2⟩
  · unfold f_X5_distanceOf
    rw [if_pos h1, gz_ok h0, gz_ok h0]
  · unfold f_Y8_distanceOf
    rw [gd_2450 (by decide) (by decide), a1, a2, show ((4 : Int32).toNatClampNeg) = 4 from rfl, hg]
    simp only [bnd1, Option.bind_some]
    rw [Int32.add_assoc]
/-- the class's counts of the lots are what the model counts of each -/
theorem s_count {plc rom lcn : Int32} {plot ppc pmk w : Nat → Int32} (hw : w 1 * w 2 = plc) (h1 : 1 ≤ plc) (h2 : plc ≤ 48) (hl : lcn ≤ 24) (hP : QP plc rom lcn plot ppc pmk w) (rest : Nat → Int32) : ∃ rest', f_X5_countLots plc plot ppc rest = some rest' ∧ ∀ l : Int32, 0 ≤ l → l < 24 → f_Y8_onHand l w = some (ix rest' l) := by
  obtain ⟨c4, k1, k2⟩ := lp_run (f := fun z : Int32 × (Nat → Int32) => f_X5_countLots_L2 plc plot ppc z.1 z.2) (fun s => 0 ≤ s.1 ∧ s.1 ≤ 24 ∧ ∀ j : Int32, 0 ≤ j → j < s.1 → ix s.2 j = 0) (fun e => ∀ j : Int32, 0 ≤ j → j < 24 → ix e j = 0) (fun z => msr z.1 24) (by
    rintro ⟨n, cp⟩ ⟨g1, g2, g3⟩
    dsimp only at g1 g2 g3 ⊢
    unfold f_X5_countLots_L2
    by_cases hn : 24 ≤ n
    · exact Or.inr ⟨cp, by rw [if_pos hn], fun j a b => g3 j a (by grind)⟩
    · left
      have hn' : n < 24 := by grind
      refine ⟨(n + 1, upd cp n.toNatClampNeg 0), by rw [if_neg hn, gd_24 g1 hn'], ⟨by dsimp only; grind, by dsimp only; grind, ?_⟩, msr_lt hn'⟩
      intro j a b
      dsimp only at b ⊢
      unfold ix
      rw [upd_at g1 a]
      by_cases hj : j = n
      · rw [if_pos hj]
      · rw [if_neg hj]; exact g3 j a (by grind)) fu (0, rest) ⟨by dsimp only; decide, by dsimp only; decide, fun j a b => by dsimp only at b; grind⟩ (msr_fu (by dsimp only; decide) (by decide))
  have step : ∀ (n : Int32) (cp : Nat → Int32), 0 ≤ n → n < plc → f_X5_countLots_L20 plc plot ppc n cp = some (.inl (n + 1, if 1 ≤ ix ppc n then upd cp (ix plot n).toNatClampNeg (ix cp (ix plot n) + ix ppc n) else cp)) := by
    intro n cp g1 g2
    obtain ⟨-, -, -, p1, p2, p3⟩ := hP n g1 g2
    unfold f_X5_countLots_L20 f_X5_countLots_L20_J57
    rw [if_neg (by grind), gd_48 g1 (by grind)]
    rcases p3 with ⟨p3, p4⟩ | ⟨p3, p4, p5⟩
    · rw [if_pos (by grind), if_neg (by grind)]
    · rw [if_neg (by grind), if_neg (by grind), gd_24 p4 (by grind), gd_48 g1 (by grind), gd_24 p4 (by grind), if_pos p3]
  obtain ⟨c13, k3, -⟩ := lp_run (f := fun z : Int32 × (Nat → Int32) => f_X5_countLots_L20 plc plot ppc z.1 z.2) (fun s => 0 ≤ s.1 ∧ s.1 ≤ plc) (fun _ => True) (fun z => msr z.1 plc) (by
    rintro ⟨n, cp⟩ ⟨g1, g2⟩
    dsimp only at g1 g2 ⊢
    by_cases hn : plc ≤ n
    · exact Or.inr ⟨cp, by unfold f_X5_countLots_L20; rw [if_pos hn], trivial⟩
    · exact Or.inl ⟨_, step n cp g1 (by grind), ⟨by dsimp only; grind, by dsimp only; grind⟩, msr_lt (by grind)⟩) fu (0, c4) ⟨by dsimp only; decide, by dsimp only; grind⟩ (msr_fu (by dsimp only; decide) (by grind))
  refine ⟨c13, ?_, ?_⟩
  · unfold f_X5_countLots; rw [k1]; simp only [bnd1, Option.bind_some]; rw [k3]; rfl
  intro l l1 l2
  obtain ⟨e, d, q1, q2, q3⟩ := lp_rel (f := fun z : Int32 × (Nat → Int32) => f_X5_countLots_L20 plc plot ppc z.1 z.2) (g := fun z : Int32 × Int32 => f_Y8_onHand_L4 l w z.1 z.2) (fun s t => s.1 = t.2 ∧ 0 ≤ s.1 ∧ s.1 ≤ plc ∧ t.1 = ix s.2 l) (fun e d => d = ix e l) (fun z => msr z.1 plc) (by
    rintro ⟨n, cp⟩ ⟨a, n2⟩ ⟨rfl, g1, g2, rfl⟩
    dsimp only at g1 g2 ⊢
    by_cases hn : plc ≤ n
    · refine Or.inr ⟨cp, ix cp l, by unfold f_X5_countLots_L20; rw [if_pos hn], ?_, rfl⟩
      unfold f_Y8_onHand_L4; rw [n_places, hw]; simp only [bnd1, Option.bind_some]; rw [if_pos hn]
    · left
      have hn' : n < plc := by grind
      obtain ⟨e1, e2, e3, p1, p2, p3⟩ := hP n g1 hn'
      refine ⟨_, (if ix plot n = l then ix cp l + ix ppc n else ix cp l, n + 1), step n cp g1 hn', ?_, ⟨rfl, by dsimp only; grind, by dsimp only; grind, ?_⟩, msr_lt hn'⟩
      · unfold f_Y8_onHand_L4 f_Y8_onHand_L4_J39
        rw [n_places, hw]
        simp only [bnd1, Option.bind_some]
        rw [if_neg hn, gd_2450 (by grind) (by grind), gd_2450 (by grind) (by grind)]
        simp only [Int32.add_zero]
        grind
      · dsimp only
        rcases p3 with ⟨p3, p4⟩ | ⟨p3, p4, p5⟩
        · rw [if_neg (show ¬ (1 : Int32) ≤ ix ppc n by grind), if_neg (by grind)]
        · rw [if_pos p3]
          unfold ix
          rw [upd_at p4 l1]
          unfold ix at *
          grind) fu (0, c4) (0, 0) ⟨rfl, by dsimp only; decide, by dsimp only; grind, by dsimp only; exact (k2 l l1 l2).symm⟩ (msr_fu (by dsimp only; decide) (by grind))
  have he : e = c13 := Option.some.inj (q1.symm.trans k3)
  subst he
  unfold f_Y8_onHand; rw [q2, q3]; rfl
