theorem p_checksum {tod prods lan pos rom gp plc lcn ocn c : Int32} {plot ppc pmk ocu opr oop odu oli oha w : Nat → Int32} (hD : QD tod prods lan pos rom gp plc lcn ocn w) (hP : QP plc rom lcn plot ppc pmk w) (hO : QO ocn prods ocu opr oop odu oli w) (hH : QH ocn lcn oha w) :
    ∃ b, f_X7_checksum tod plc plot ppc ocn oop oha = some b ∧ f_Y8_checksum c w = some (b, 0) := by
  obtain ⟨d0, d1, d2, d3, d4, d5, d6, d7, d8, d9, d10, d11, d12, d13, d14, d15, d16, d17, d18, d19, d20, d21, d22, d23, d24, d25, d26⟩ := hD
  have hw : w 1 * w 2 = plc := by rw [d3, d6, d15]
  obtain ⟨e, q1, q2, -⟩ := lp_same (f := fun z : Int64 × Int32 => f_X7_checksum_L15 tod plc plot ppc ocn oop oha z.1 z.2) (g := fun z : Int64 × Int32 => f_Y8_checksum_L19 0 w z.1 z.2) (fun z => 0 ≤ z.2 ∧ z.2 ≤ plc) (fun _ => True) (fun z => msr z.2 plc) (by
    rintro ⟨a, n⟩ ⟨g1, g2⟩
    dsimp only at g1 g2 ⊢
    unfold f_X7_checksum_L15 f_Y8_checksum_L19
    rw [n_places, hw]
    simp only [bnd1, Option.bind_some]
    by_cases hn : plc ≤ n
    · exact Or.inr ⟨a, by rw [if_pos hn], by rw [if_pos hn], trivial⟩
    · left
      have hn' : n < plc := by grind
      obtain ⟨a1, a2, -⟩ := hP n g1 hn'
      have b1 : w (15 + n).toNatClampNeg = plot n.toNatClampNeg := a1
      have b2 : w (63 + n).toNatClampNeg = ppc n.toNatClampNeg := a2
      refine ⟨(31 * (31 * a + (plot n.toNatClampNeg).toInt64) + (ppc n.toNatClampNeg).toInt64, n + 1), ?_, ?_, ?_, msr_lt hn'⟩
      · rw [if_neg hn, gd_48 g1 (by grind), gd_48 g1 (by grind)]
      · rw [if_neg hn, gd_2450 (by grind) (by grind), gd_2450 (by grind) (by grind), b1, b2]
      · dsimp only; grind) fu (527 + tod.toInt64, 0) ⟨by dsimp only; decide, by dsimp only; grind⟩ (msr_fu (by dsimp only; decide) (by grind))
  obtain ⟨e2, q3, q4, -⟩ := lp_same (f := fun z : Int64 × Int32 => f_X7_checksum_L77 tod plc plot ppc ocn oop oha z.1 z.2) (g := fun z : Int64 × Int32 => f_Y8_checksum_L69 0 w z.1 z.2) (fun z => 0 ≤ z.2 ∧ z.2 ≤ ocn) (fun _ => True) (fun z => msr z.2 ocn) (by
    rintro ⟨a, n⟩ ⟨g1, g2⟩
    dsimp only at g1 g2 ⊢
    unfold f_X7_checksum_L77 f_Y8_checksum_L69
    rw [gd_2450 (by decide) (by decide), show ((7 : Int32).toNatClampNeg) = 7 from rfl, d24]
    by_cases hn : ocn ≤ n
    · exact Or.inr ⟨a, by rw [if_pos hn], by rw [if_pos hn], trivial⟩
    · left
      have hn' : n < ocn := by grind
      obtain ⟨a1, a2, a3, a4, a5, a6, a7, -⟩ := hO n g1 hn'
      have b1 : w (383 + n).toNatClampNeg = oop n.toNatClampNeg := a7
      obtain ⟨r1, s1, s2⟩ := s_hasAll (v := n) d21 d22 d23 d26 hH g1 hn'
      refine ⟨(31 * (31 * a + (oop n.toNatClampNeg).toInt64) + r1.toInt64, n + 1), ?_, ?_, ?_, msr_lt hn'⟩
      · rw [if_neg hn, gd_40 g1 (by grind), s1]; simp only [bnd1, Option.bind_some]
      · rw [if_neg hn, gd_2450 (by grind) (by grind), s2, b1]; simp only [bnd1, Option.bind_some]
      · dsimp only; grind) fu (e, 0) ⟨by dsimp only; decide, by dsimp only; grind⟩ (msr_fu (by dsimp only; decide) (by grind))
  refine ⟨e2, ?_, ?_⟩
  · unfold f_X7_checksum
    rw [q1]; simp only [bnd1, Option.bind_some]; rw [q3]; rfl
  · unfold f_Y8_checksum
    rw [gd_2450 (by decide) (by decide), show ((0 : Int32).toNatClampNeg) = 0 from rfl, d0, q2]; simp only [bnd1, Option.bind_some]; rw [q4]; rfl
theorem p_boxBound {icnt v1 c : Int32} {itm w : Nat → Int32} {o : Nat → Int64} (hI : QI icnt itm w) :
    ∃ k o' b, f_W_boxBound v1 icnt itm o = some (k, o') ∧ f_Y8_boxBound v1 c w = some (b, k) ∧ (k = 0 → o' 0 = b.toInt64) := by
  obtain ⟨i0, i1, i2, i3⟩ := hI
  unfold f_W_boxBound f_X7_boxBound f_Y8_boxBound
  simp only [bnd1, bnd2, Option.bind_some, n_can, n_range, n_in]
  by_cases h1 : 1 ≤ v1 ∧ v1 ≤ 40
  · obtain ⟨e, q1, q2, -⟩ := lp_same (f := fun z : Int32 × Int32 => f_X7_boxBound_L11 v1 icnt itm z.1 z.2) (g := fun z : Int32 × Int32 => f_Y8_sizeOf_L4 255 w z.1 z.2) (fun z => 0 ≤ z.2 ∧ z.2 ≤ icnt) (fun _ => True) (fun z => msr z.2 icnt) (by
      rintro ⟨a, n⟩ ⟨g1, g2⟩
      dsimp only at g1 g2 ⊢
      unfold f_X7_boxBound_L11 f_Y8_sizeOf_L4
      rw [gd_2450 (by decide) (by decide), show ((2423 : Int32).toNatClampNeg) = 2423 from rfl, i0]
      by_cases hn : icnt ≤ n
      · exact Or.inr ⟨a, by rw [if_pos hn], by rw [if_pos hn], trivial⟩
      · left
        have hn' : n < icnt := by grind
        obtain ⟨a1, -⟩ := i3 n g1 hn'
        have b1 : w (2424 + n).toNatClampNeg = itm n.toNatClampNeg := a1
        have hb : ((255 : Int32) >>> (n &&& 31)) &&& 1 = 1 := by
          have : n = 0 ∨ n = 1 ∨ n = 2 ∨ n = 3 ∨ n = 4 ∨ n = 5 ∨ n = 6 ∨ n = 7 := by grind
          rcases this with rfl | rfl | rfl | rfl | rfl | rfl | rfl | rfl <;> decide
        refine ⟨(a + itm n.toNatClampNeg, n + 1), ?_, ?_, ?_, msr_lt hn'⟩
        · rw [if_neg hn, gd_8 g1 (by grind)]
        · rw [if_neg hn, if_pos hb, gd_2450 (by grind) (by grind), b1]; rfl
        · dsimp only; grind) fu (0, 0) ⟨by decide, by dsimp only; grind⟩ (msr_fu (by decide) (by grind))
    unfold f_Y8_sizeOf
    simp only [if_pos h1, mx, Option.bind_some, bnd1]
    rw [if_neg (by decide), q1, q2]
    simp only [Option.bind_some]
    rw [gz_ok (by grind), gz_ok (by grind)]
    exact cl_ok rfl
  · simp only [if_neg h1, mx, String.reduceEq, ↓reduceIte, Option.bind_some]
    exact cl_no (by decide)
/-- the places by distance: both sides' rows -/
def QR (plc : Int32) (pbd near : Nat → Int32) : Prop := (∀ n : Int32, 0 ≤ n → n < plc → ix near n = ix pbd n ∧ 0 ≤ ix pbd n ∧ ix pbd n < plc) ∧ ∀ p : Int32, 0 ≤ p → p < plc → ∃ n : Int32, 0 ≤ n ∧ n < plc ∧ ix pbd n = p
theorem p_firstFree {tod prods lan pos rom gp plc lcn ocn c : Int32} {plot ppc pmk pbd near w : Nat → Int32} {o : Nat → Int64} (hD : QD tod prods lan pos rom gp plc lcn ocn w) (hP : QP plc rom lcn plot ppc pmk w) (hR : QR plc pbd near) :
    ∃ k o' b, f_W_firstFree plc ppc pbd o = some (k, o') ∧ f_Y8_firstFree c w near = some (b, k) ∧ (k = 0 → o' 0 = b.toInt64) := by
  obtain ⟨d0, d1, d2, d3, d4, d5, d6, d7, d8, d9, d10, d11, d12, d13, d14, d15, d16, d17, d18, d19, d20, d21, d22, d23, d24, d25, d26⟩ := hD
  have hw : w 1 * w 2 = plc := by rw [d3, d6, d15]
  obtain ⟨e, d, q1, q2, q3⟩ := lp_rel (f := fun z : Int32 => f_X5_nearestFree_L2 plc ppc pbd z) (g := fun z : Int32 => f_Y8_firstFree_L2 c w near z) (fun s t => s = t ∧ 0 ≤ s ∧ s ≤ plc) (fun e d => (e = .inr () ∧ d = plc) ∨ (e = .inl d ∧ 0 ≤ d ∧ d < plc)) (fun z => msr z plc) (by
    rintro n n2 ⟨rfl, g1, g2⟩
    unfold f_X5_nearestFree_L2 f_Y8_firstFree_L2
    rw [n_places, hw]
    simp only [bnd1, Option.bind_some]
    by_cases hn : plc ≤ n
    · exact Or.inr ⟨_, n, by rw [if_pos hn], by rw [if_pos hn], Or.inl ⟨rfl, by grind⟩⟩
    · have hn' : n < plc := by grind
      obtain ⟨a1, a2, a3⟩ := hR.1 n g1 hn'
      have b1 : near n.toNatClampNeg = pbd n.toNatClampNeg := a1
      obtain ⟨-, c2, -⟩ := hP (ix pbd n) a2 a3
      rw [if_neg hn, if_neg hn, gd_48 g1 (by grind), gd_48 g1 (by grind), b1, n_isFree5 (ix pbd n) plc ppc d17 a2 a3, n_isFree (ix pbd n) w a2 (by grind), c2]
      simp only [Option.bind_some]
      by_cases hz : ix ppc (ix pbd n) = 0
      · exact Or.inr ⟨.inl n, n, by rw [if_pos hz, if_neg (by decide)], by rw [if_pos hz, if_neg (by decide)], Or.inr ⟨rfl, g1, hn'⟩⟩
      · exact Or.inl ⟨n + 1, n + 1, by rw [if_neg hz, if_pos rfl], by rw [if_neg hz, if_pos rfl], ⟨rfl, by grind, by grind⟩, msr_lt hn'⟩) fu 0 0 ⟨rfl, by decide, by grind⟩ (msr_fu (by decide) (by grind))
  unfold f_W_firstFree f_X7_firstFree f_X5_nearestFree f_Y8_firstFree f_Y8_firstFree_J43
  simp only [bnd1, bnd2, q1, q2, Option.bind_some, n_places, hw]
  rcases q3 with ⟨rfl, rfl⟩ | ⟨rfl, g1, g2⟩
  · simp only [sel, Option.bind_some, Int32.le_refl, ↓reduceIte, mx]
    exact ⟨1, o, 0, rfl, rfl, fun z => absurd z (by decide)⟩
  · obtain ⟨a1, a2, a3⟩ := hR.1 d g1 g2
    have b1 : near d.toNatClampNeg = pbd d.toNatClampNeg := a1
    have c2 : ¬ pbd d.toNatClampNeg = -1 := by unfold ix at a2; grind
    simp only [sel]
    rw [gd_48 g1 (by grind), if_neg (by grind)]
    simp only [Option.bind_some, if_neg c2, mx, can_t]
    rw [if_neg (by decide), gd_48 g1 (by grind), b1]
    exact cl_ok rfl
