/-! ===== copies of a state ===== -/
def ae (N : Int32) (f f' : Nat → Int32) : Prop := ∀ i : Int32, 0 ≤ i → i < N → ix f' i = ix f i
theorem ae_cpy {f g : Nat → Int32} {N : Int32} : ae N f (va_cpy f g (0 : Int32).toNatClampNeg (0 : Int32).toNatClampNeg N.toNatClampNeg) := by
  intro i h0 h1
  have h2 := tn_lt h0 h1
  have e0 : (0 : Int32).toNatClampNeg = 0 := rfl
  show va_cpy f g _ _ _ _ = _
  unfold va_cpy
  rw [e0, if_pos ⟨Nat.zero_le _, by omega⟩]
  congr 1
  omega
def SE (s s' : StT) : Prop := s'.tod = s.tod ∧ s'.prods = s.prods ∧ s'.icnt = s.icnt ∧ ae 8 s.itm s'.itm ∧ ae 6 s.bks s'.bks ∧ ae 10 s.trm s'.trm ∧ s'.lan = s.lan ∧ s'.pos = s.pos ∧ s'.rom = s.rom ∧ s'.gp = s.gp ∧ s'.plc = s.plc ∧ s'.pkd = s.pkd ∧ ae 48 s.plot s'.plot ∧ ae 48 s.ppc s'.ppc ∧ ae 48 s.pmk s'.pmk ∧ ae 48 s.pbd s'.pbd ∧ s'.lcn = s.lcn ∧ ae 24 s.lpr s'.lpr ∧ ae 24 s.lla s'.lla ∧ ae 24 s.lco s'.lco ∧ ae 24 s.lst s'.lst ∧ ae 24 s.lbl s'.lbl ∧ s'.ocn = s.ocn ∧ s'.gif = s.gif ∧ ae 40 s.ocu s'.ocu ∧ ae 40 s.opr s'.opr ∧ ae 40 s.oop s'.oop ∧ ae 40 s.odu s'.odu ∧ ae 40 s.oli s'.oli ∧ ae 40 s.obd s'.obd ∧ ae 960 s.oha s'.oha ∧ ae 960 s.ost s'.ost
theorem copyT_ok (a b : StT) : ∃ v, copyT a b = some v ∧ SE b v := by
  unfold copyT f_X6_copyFrom f_X5_copyFrom f_X1_copyFrom f_X2_copyFrom
  simp only [bnd10, bnd6, Option.bind_some]
  exact ⟨_, rfl, rfl, rfl, rfl, ae_cpy, ae_cpy, ae_cpy, rfl, rfl, rfl, rfl, rfl, rfl, ae_cpy, ae_cpy, ae_cpy, ae_cpy, rfl, ae_cpy, ae_cpy, ae_cpy, ae_cpy, ae_cpy, rfl, rfl, ae_cpy, ae_cpy, ae_cpy, ae_cpy, ae_cpy, ae_cpy, ae_cpy, ae_cpy⟩
theorem ae_0 {N : Int32} {f f' : Nat → Int32} (h : ae N f f') (k : Nat) (h1 : (0 : Int32) ≤ Int32.ofNat k) (h2 : Int32.ofNat k < N) (h3 : (Int32.ofNat k).toNatClampNeg = k) : f' k = f k := by
  have := h (Int32.ofNat k) h1 h2
  unfold ix at this
  rwa [h3] at this
theorem zsum_ae {f f' : Nat → Int32} : ∀ k : Nat, (∀ j, j < k → f' j = f j) → zsum f' k = zsum f k := by
  intro k
  induction k with
  | zero => intro _; rfl
  | succ k ih =>
    intro h
    unfold zsum
    rw [ih (fun j hj => h j (by omega)), h k (by omega)]
theorem ae_nat {N : Int32} {f f' : Nat → Int32} (h : ae N f f') {j : Nat} (hj : j < N.toNatClampNeg) : f' j = f j := by
  have h0 : N.toNatClampNeg = N.toInt.toNat := rfl
  have hb := fb_rng N
  have h1 : (Int32.ofNat j).toInt = j := Int32.toInt_ofNat_of_lt (by omega)
  have h2 : (Int32.ofNat j).toNatClampNeg = j := by
    have : (Int32.ofNat j).toNatClampNeg = (Int32.ofNat j).toInt.toNat := rfl
    omega
  refine ae_0 h j ?_ ?_ h2
  · rw [i_le, h1]; have e : (0 : Int32).toInt = 0 := rfl
    omega
  · rw [i_lt, h1]; omega
theorem hand_ae {plc : Int32} {f f' : Nat → Int32} (h0 : 0 ≤ plc) (h1 : plc ≤ 48) (h : ae 48 f f') {e : Int32} (he : f_X5_piecesOnHand plc f = some e) : f_X5_piecesOnHand plc f' = some e := by
  obtain ⟨e2, q1, q2, -⟩ := lp_same (f := fun z : Int32 × Int32 => f_X5_piecesOnHand_L4 plc f z.1 z.2) (g := fun z : Int32 × Int32 => f_X5_piecesOnHand_L4 plc f' z.1 z.2) (fun z => 0 ≤ z.2 ∧ z.2 ≤ plc) (fun _ => True) (fun z => msr z.2 plc) (by
    rintro ⟨a, n⟩ ⟨g1, g2⟩
    dsimp only at g1 g2 ⊢
    unfold f_X5_piecesOnHand_L4
    by_cases hn : plc ≤ n
    · exact Or.inr ⟨a, by rw [if_pos hn], by rw [if_pos hn], trivial⟩
    · left
      have hn' : n < plc := by grind
      have b1 : f' n.toNatClampNeg = f n.toNatClampNeg := h n g1 (by grind)
      refine ⟨(a + f n.toNatClampNeg, n + 1), ?_, ?_, ?_, msr_lt hn'⟩
      · rw [if_neg hn, gd_48 g1 (by grind)]
      · rw [if_neg hn, gd_48 g1 (by grind), b1]
      · dsimp only; grind) fu (0, 0) ⟨by decide, by dsimp only; grind⟩ (msr_fu (by decide) (by grind))
  unfold f_X5_piecesOnHand at *
  rw [q1] at he
  rw [q2]; exact he
theorem QLs_ae {c N : Int32} {f f' g g' : Nat → Int32} (hc : c ≤ N) (h1 : ae N f f') (h2 : ae N g g') (q : QLs c f g) : QLs c f' g' := by
  obtain ⟨q1, q2, q3⟩ := q
  refine ⟨?_, ?_, ?_⟩
  · intro n a b
    rw [h2 n a (by grind)]; exact q1 n a b
  · intro x y a b d
    have e1 := q1 x a (by grind)
    have e2 := q1 y (by grind) d
    rw [h2 x a (by grind), h2 y (by grind) (by grind), h1 _ e1.1 (by grind), h1 _ e2.1 (by grind)]
    exact q2 x y a b d
  · intro l a b
    obtain ⟨n, n1, n2, n3⟩ := q3 l a b
    exact ⟨n, n1, n2, by rw [h2 n n1 (by grind)]; exact n3⟩
theorem RS_se {s s' : StT} {w : Nat → Int32} (h : SE s s') (q : RS s w) : RS s' w := by
  obtain ⟨h1, h2, h3, h4, h5, h6, h7, h8, h9, h10, h11, h12, h13, h14, h15, h16, h17, h18, h19, h20, h21, h22, h23, h24, h25, h26, h27, h28, h29, h30, h31, h32⟩ := h
  obtain ⟨a1, a2, a3, a4, a5, a6, a7, a8, a9, a10, a11, a12, a13, a14, a15⟩ := q
  have b := a1
  obtain ⟨d0, d1, d2, d3, d4, d5, d6, d7, d8, d9, d10, d11, d12, d13, d14, d15, d16, d17, d18, d19, d20, d21, d22, d23, d24, d25, d26⟩ := b
  unfold RS
  rw [h1, h2, h3, h7, h8, h9, h10, h11, h12, h17, h23, h24]
  refine ⟨a1, ?_, ?_, a4, ?_, QLs_ae d23 h19 h22 a6, ?_, QLs_ae d26 h28 h30 a8, ?_, ?_, ?_, ?_, ?_, ?_, ?_⟩
  · intro n n1 n2
    rw [h5 n n1 n2]; exact a2 n n1 n2
  · intro n n1 n2
    rw [h13 n n1 (by grind), h14 n n1 (by grind), h15 n n1 (by grind)]; exact a3 n n1 n2
  · intro n n1 n2
    rw [h18 n n1 (by grind), h19 n n1 (by grind), h20 n n1 (by grind), h21 n n1 (by grind)]; exact a5 n n1 n2
  · intro n n1 n2
    rw [h25 n n1 (by grind), h26 n n1 (by grind), h27 n n1 (by grind), h28 n n1 (by grind), h29 n n1 (by grind)]; exact a7 n n1 n2
  · intro n m n1 n2 n3 n4
    rw [h31 _ (by grind) (by grind)]; exact a9 n m n1 n2 n3 n4
  · obtain ⟨g1, g2, g3, g4, g5⟩ := a10
    refine ⟨g1, g2, ?_, ?_, g5⟩
    · intro n m n1 n2 n3 n4
      rw [h31 _ (by grind) (by grind), h32 _ (by grind) (by grind)]; exact g3 n m n1 n2 n3 n4
    · intro n m m' n1 n2 n3 n4 n5 n6
      rw [h31 _ (by grind) (by grind), h32 _ (by grind) (by grind), h31 _ (by grind) (by grind), h32 _ (by grind) (by grind)]; exact g4 n m m' n1 n2 n3 n4 n5 n6
  · obtain ⟨g1, g2⟩ := a11
    refine ⟨?_, ?_⟩
    · intro n n1 n2
      rw [h27 n n1 (by grind), zsum_ae 24 (f := fun k => s.oha ((n * 24).toNatClampNeg + k))]
      · exact g1 n n1 n2
      · intro j hj
        refine ae_nat h31 ?_
        have e1 : (960 : Int32).toNatClampNeg = 960 := rfl
        have e2 := tn_lt (i := n * 24) (N := 937) (by grind) (by grind)
        have e3 : (937 : Int32).toNatClampNeg = 937 := rfl
        omega
    · rw [zsum_ae s.ocn.toNatClampNeg (f := s.oop)]
      · exact g2
      · intro j hj
        refine ae_nat h27 ?_
        have e1 : (40 : Int32).toNatClampNeg = 40 := rfl
        have e2 : s.ocn.toNatClampNeg < (41 : Int32).toNatClampNeg := tn_lt d25 (by grind)
        have e3 : (41 : Int32).toNatClampNeg = 41 := rfl
        omega
  · obtain ⟨g1, g2, g3, g4⟩ := a12
    refine ⟨g1, g2, g3, ?_⟩
    intro n n1 n2
    rw [h4 n n1 (by grind)]; exact g4 n n1 n2
  · obtain ⟨g0, g⟩ := a13
    refine ⟨?_, ?_⟩
    · intro n n1 n2
      rw [h6 n n1 (by grind)]; exact g0 n n1 n2
    · rw [ae_0 h6 0 (by decide) (by decide) rfl, ae_0 h6 1 (by decide) (by decide) rfl, ae_0 h6 2 (by decide) (by decide) rfl, ae_0 h6 3 (by decide) (by decide) rfl, ae_0 h6 4 (by decide) (by decide) rfl, ae_0 h6 5 (by decide) (by decide) rfl, ae_0 h6 6 (by decide) (by decide) rfl, ae_0 h6 7 (by decide) (by decide) rfl, ae_0 h6 8 (by decide) (by decide) rfl, ae_0 h6 9 (by decide) (by decide) rfl]
      exact g
  · obtain ⟨e, g1, g2⟩ := a14
    refine ⟨e, hand_ae (by grind) d17 h14 g1, ?_⟩
    rw [ae_0 h5 0 (by decide) (by decide) rfl, ae_0 h5 1 (by decide) (by decide) rfl, ae_0 h5 2 (by decide) (by decide) rfl, ae_0 h5 3 (by decide) (by decide) rfl, ae_0 h5 4 (by decide) (by decide) rfl, ae_0 h5 5 (by decide) (by decide) rfl]
    exact g2
  · intro w' near0 e1 e2 e3
    obtain ⟨near', g1, g2⟩ := a15 w' near0 e1 e2 e3
    refine ⟨near', g1, ?_, ?_⟩
    · intro n n1 n2
      rw [h16 n n1 (by grind)]; exact g2.1 n n1 n2
    · intro p p1 p2
      obtain ⟨n, n1, n2, n3⟩ := g2.2 p p1 p2
      exact ⟨n, n1, n2, by rw [h16 n n1 (by grind)]; exact n3⟩
