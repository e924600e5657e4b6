/-! ===== one place changes ===== -/
theorem n_set {p l x k plc : Int32} {plot ppc pmk : Nat → Int32} (hc : plc ≤ 48) (h1 : 0 ≤ p) (h2 : p < plc) : f_X5_set p l x k plc plot ppc pmk = some (upd plot p.toNatClampNeg (if x = 0 then -1 else l), upd ppc p.toNatClampNeg x, upd pmk p.toNatClampNeg k) := by
  have hp : 0 ≤ p ∧ p < plc := ⟨h1, h2⟩
  unfold f_X5_set f_X5_set_J22
  rw [n_exP p plc hc, if_pos hp]
  simp only [bnd1, Option.bind_some]
  rw [if_neg one_ne, gd_48 h1 (by grind), gd_48 h1 (by grind), gd_48 h1 (by grind), gd_48 h1 (by grind), gd_48 h1 (by grind), gd_48 h1 (by grind)]
  by_cases hx : x = 0
  · rw [if_pos hx, if_pos hx]
  · rw [if_neg hx, if_neg hx]
theorem n_takes {p x : Int32} {w : Nat → Int32} (h1 : 0 ≤ p) (h2 : p < 48) : f_Y8_takes p x w = some (upd (upd w (63 + p).toNatClampNeg (ix w (63 + p) - x)) (15 + p).toNatClampNeg (if ix w (63 + p) - x = 0 then -1 else ix w (15 + p))) := by
  unfold f_Y8_takes f_Y8_takes_J42
  rw [gd_2450 (by grind) (by grind), gd_2450 (by grind) (by grind), n_isFree p _ h1 h2]
  simp only [bnd1, Option.bind_some]
  have e1 : ix (upd w (63 + p).toNatClampNeg (w (63 + p).toNatClampNeg - x)) (63 + p) = ix w (63 + p) - x := upd_same
  have e2 : upd w (63 + p).toNatClampNeg (w (63 + p).toNatClampNeg - x) (15 + p).toNatClampNeg = ix w (15 + p) := upd_ne (by grind) (by grind) (by grind)
  rw [e1, e2, gd_2450 (by grind) (by grind), gd_2450 (by grind) (by grind)]
  by_cases hx : ix w (63 + p) - x = 0
  · rw [if_pos hx, if_neg one_ne, if_pos hx, gd_2450 (by grind) (by grind)]
  · rw [if_neg hx, if_pos rfl, if_neg hx]
theorem n_scraps {p x : Int32} {w : Nat → Int32} (h1 : 0 ≤ p) (h2 : p < 48) : f_Y8_scraps p x w = some (upd (upd (upd (upd w (63 + p).toNatClampNeg (ix w (63 + p) - x)) (15 + p).toNatClampNeg (if ix w (63 + p) - x = 0 then -1 else ix w (15 + p))) (111 + p).toNatClampNeg 5) (12 : Int32).toNatClampNeg (ix w 12 + x)) := by
  unfold f_Y8_scraps
  rw [n_takes h1 h2]
  simp only [bnd1, Option.bind_some]
  rw [gd_2450 (by grind) (by grind), gd_2450 (by decide) (by decide), gd_2450 (by decide) (by decide)]
  have e1 : upd (upd (upd w (63 + p).toNatClampNeg (ix w (63 + p) - x)) (15 + p).toNatClampNeg (if ix w (63 + p) - x = 0 then -1 else ix w (15 + p))) (111 + p).toNatClampNeg 5 (12 : Int32).toNatClampNeg = ix w 12 := by
    rw [upd_ne (by grind) (by decide) (by grind), upd_ne (by grind) (by decide) (by grind), upd_ne (by grind) (by decide) (by grind)]
  rw [e1]
theorem QP_set {plc rom lcn p l x k : Int32} {plot ppc pmk w w' : Nat → Int32} (hc : plc ≤ 48) (q : QP plc rom lcn plot ppc pmk w) (h1 : 0 ≤ p) (h2 : p < plc) (hx0 : 0 ≤ x) (hx : x ≤ rom) (hl : (x = 0 ∧ l = -1) ∨ (1 ≤ x ∧ 0 ≤ l ∧ l < lcn))
    (e1 : ix w' (15 + p) = l) (e2 : ix w' (63 + p) = x) (e3 : ix w' (111 + p) = k) (ho : ∀ n : Int32, 0 ≤ n → n < plc → n ≠ p → ix w' (15 + n) = ix w (15 + n) ∧ ix w' (63 + n) = ix w (63 + n) ∧ ix w' (111 + n) = ix w (111 + n)) :
    QP plc rom lcn (upd plot p.toNatClampNeg l) (upd ppc p.toNatClampNeg x) (upd pmk p.toNatClampNeg k) w' := by
  intro n n1 n2
  have u1 : ix (upd plot p.toNatClampNeg l) n = if n = p then l else ix plot n := upd_at h1 n1
  have u2 : ix (upd ppc p.toNatClampNeg x) n = if n = p then x else ix ppc n := upd_at h1 n1
  have u3 : ix (upd pmk p.toNatClampNeg k) n = if n = p then k else ix pmk n := upd_at h1 n1
  rw [u1, u2, u3]
  by_cases hn : n = p
  · subst hn
    rw [if_pos rfl, if_pos rfl, if_pos rfl]
    exact ⟨e1, e2, e3, hx0, hx, hl⟩
  · obtain ⟨o1, o2, o3⟩ := ho n n1 n2 hn
    rw [if_neg hn, if_neg hn, if_neg hn, o1, o2, o3]
    exact q n n1 n2
theorem hand_upd {plc p x e : Int32} {ppc : Nat → Int32} (hc : plc ≤ 48) (h1 : 0 ≤ p) (h2 : p < plc) (he : f_X5_piecesOnHand plc ppc = some e) : f_X5_piecesOnHand plc (upd ppc p.toNatClampNeg x) = some (e + (x - ix ppc p)) := by
  obtain ⟨a, b, q1, q2, q3⟩ := lp_rel (f := fun z : Int32 × Int32 => f_X5_piecesOnHand_L4 plc ppc z.1 z.2) (g := fun z : Int32 × Int32 => f_X5_piecesOnHand_L4 plc (upd ppc p.toNatClampNeg x) z.1 z.2) (fun s t => s.2 = t.2 ∧ 0 ≤ s.2 ∧ s.2 ≤ plc ∧ t.1 = s.1 + if p < s.2 then x - ix ppc p else 0) (fun e d => d = e + (x - ix ppc p)) (fun z => msr z.2 plc) (by
    rintro ⟨s, n⟩ ⟨t, n'⟩ ⟨rfl, g1, g2, rfl⟩
    dsimp only at g1 g2 ⊢
    unfold f_X5_piecesOnHand_L4
    by_cases hn : plc ≤ n
    · refine Or.inr ⟨s, _, by rw [if_pos hn], by rw [if_pos hn], ?_⟩
      rw [if_pos (by grind)]
    · left
      have hn' : n < plc := by grind
      have u2 : upd ppc p.toNatClampNeg x n.toNatClampNeg = if n = p then x else ix ppc n := upd_at h1 g1
      refine ⟨(s + ix ppc n, n + 1), ((s + if p < n then x - ix ppc p else 0) + (if n = p then x else ix ppc n), n + 1), ?_, ?_, ⟨rfl, by dsimp only; grind, by dsimp only; grind, ?_⟩, msr_lt hn'⟩
      · rw [if_neg hn, gd_48 g1 (by grind)]
      · rw [if_neg hn, gd_48 g1 (by grind), u2]
      · dsimp only
        by_cases hp : n = p
        · subst hp
          rw [if_pos rfl, if_neg (by grind), if_pos (by grind)]; grind
        · rw [if_neg hp]
          by_cases hq : p < n
          · rw [if_pos hq, if_pos (by grind)]; grind
          · rw [if_neg hq, if_neg (by grind)]; grind) fu (0, 0) (0, 0) ⟨rfl, by decide, by dsimp only; grind, by rw [if_neg (by dsimp only; grind)]; rfl⟩ (msr_fu (by decide) (by grind))
  unfold f_X5_piecesOnHand at *
  rw [q1] at he
  have he' : a = e := Option.some.inj he
  rw [q2, q3, he']; rfl
