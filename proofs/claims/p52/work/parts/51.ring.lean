/-! ===== the ring of kept states ===== -/
def r8 (a : Int32) : Int32 := a - a / 8 * 8
theorem r8_ok {a : Int32} (h0 : 0 ≤ a) (h1 : a < 24) : r8 a = if a < 8 then a else if a < 16 then a - 8 else a - 16 := by
  have h : a = 0 ∨ a = 1 ∨ a = 2 ∨ a = 3 ∨ a = 4 ∨ a = 5 ∨ a = 6 ∨ a = 7 ∨ a = 8 ∨ a = 9 ∨ a = 10 ∨ a = 11 ∨ a = 12 ∨ a = 13 ∨ a = 14 ∨ a = 15 ∨ a = 16 ∨ a = 17 ∨ a = 18 ∨ a = 19 ∨ a = 20 ∨ a = 21 ∨ a = 22 ∨ a = 23 := by grind
  rcases h with rfl | rfl | rfl | rfl | rfl | rfl | rfl | rfl | rfl | rfl | rfl | rfl | rfl | rfl | rfl | rfl | rfl | rfl | rfl | rfl | rfl | rfl | rfl | rfl <;> decide
theorem tn_add {a b : Int32} (ha : 0 ≤ a) (hb : 0 ≤ b) (ha2 : a < 1000000) (hb2 : b < 1000000) : (a + b).toNatClampNeg = a.toNatClampNeg + b.toNatClampNeg := by
  have e0 : (0 : Int32).toInt = 0 := rfl
  have e1 : (1000000 : Int32).toInt = 1000000 := rfl
  have a1 := Int32.le_iff_toInt_le.mp ha
  have b1 := Int32.le_iff_toInt_le.mp hb
  have a2 := Int32.lt_iff_toInt_lt.mp ha2
  have b2 := Int32.lt_iff_toInt_lt.mp hb2
  have h := fb_addI (x := a) (y := b) (by omega) (by omega)
  have h1 : (a + b).toNatClampNeg = (a + b).toInt.toNat := rfl
  have h2 : a.toNatClampNeg = a.toInt.toNat := rfl
  have h3 : b.toNatClampNeg = b.toInt.toNat := rfl
  omega
theorem tn_2442 {e : Int32} (h0 : 0 ≤ e) (h1 : e < 8) : (2442 * e).toNatClampNeg = 2442 * e.toNatClampNeg ∧ 0 ≤ 2442 * e ∧ 2442 * e ≤ 17094 := by
  have h : e = 0 ∨ e = 1 ∨ e = 2 ∨ e = 3 ∨ e = 4 ∨ e = 5 ∨ e = 6 ∨ e = 7 := by grind
  rcases h with rfl | rfl | rfl | rfl | rfl | rfl | rfl | rfl <;> decide
/-- a row is written into the kept rows -/
theorem kp_loop {at9 u e : Int32} {w kept : Nat → Int32} (h0 : 0 ≤ at9) (h1 : at9 ≤ 17094) : ∃ k', loop (fun z : Int32 × (Nat → Int32) => f_Y8_keepsFrom_o_w_L39 at9 u e w z.1 z.2) fu (0, kept) = some k' ∧ (∀ j : Nat, j < 2442 → k' (at9.toNatClampNeg + j) = w j) ∧ ∀ i : Nat, (i < at9.toNatClampNeg ∨ at9.toNatClampNeg + 2442 ≤ i) → k' i = kept i := by
  obtain ⟨k', q1, q2, q3⟩ := lp_run (f := fun z : Int32 × (Nat → Int32) => f_Y8_keepsFrom_o_w_L39 at9 u e w z.1 z.2) (fun s => 0 ≤ s.1 ∧ s.1 ≤ 2442 ∧ (∀ j : Nat, j < s.1.toNatClampNeg → s.2 (at9.toNatClampNeg + j) = w j) ∧ ∀ i : Nat, (i < at9.toNatClampNeg ∨ at9.toNatClampNeg + s.1.toNatClampNeg ≤ i) → s.2 i = kept i)
    (fun k' => (∀ j : Nat, j < 2442 → k' (at9.toNatClampNeg + j) = w j) ∧ ∀ i : Nat, (i < at9.toNatClampNeg ∨ at9.toNatClampNeg + 2442 ≤ i) → k' i = kept i) (fun z => msr z.1 2442) (by
    rintro ⟨n, k⟩ ⟨g1, g2, g3, g4⟩
    dsimp only at g1 g2 g3 g4 ⊢
    unfold f_Y8_keepsFrom_o_w_L39
    by_cases hn : 2442 ≤ n
    · right
      have e1 : n = 2442 := by grind
      subst e1
      exact ⟨k, by rw [if_pos hn], g3, g4⟩
    · left
      have hn' : n < 2442 := by grind
      have e2 := tn_add (a := at9) (b := n) h0 g1 (by grind) (by grind)
      have e3 := tn_add (a := n) (b := 1) g1 (by decide) (by grind) (by decide)
      have e4 : (1 : Int32).toNatClampNeg = 1 := rfl
      refine ⟨(n + 1, upd k (at9 + n).toNatClampNeg (w n.toNatClampNeg)), by rw [if_neg hn, gd_2450 g1 (by grind), gd_19600 (by grind) (by grind)], ⟨by dsimp only; grind, by dsimp only; grind, ?_, ?_⟩, msr_lt hn'⟩
      · intro j hj
        dsimp only at hj ⊢
        rw [e3, e4] at hj
        unfold upd
        rw [e2]
        by_cases hjn : j = n.toNatClampNeg
        · rw [if_pos (by rw [hjn]), hjn]
        · rw [if_neg (by omega)]
          exact g3 j (by omega)
      · intro i hi
        dsimp only at hi ⊢
        rw [e3, e4] at hi
        unfold upd
        rw [e2, if_neg (by omega)]
        exact g4 i (by omega)) fu (0, kept) ⟨by dsimp only; decide, by dsimp only; decide, fun j hj => absurd hj (Nat.not_lt_zero _), fun _ _ => rfl⟩ (msr_fu (by dsimp only; decide) (by decide))
  exact ⟨k', q1, q2, q3⟩
/-- the kept states on both sides: i steps back -/
def RU (acts ns : Int32) (hk : Nat) (st : Nat → StT) (undos eldest : Int32) (kept : Nat → Int32) : Prop :=
  acts = undos ∧ 0 ≤ acts ∧ acts ≤ 8 ∧ 0 ≤ ns ∧ ns < 8 ∧ 0 ≤ eldest ∧ eldest < 8 ∧ ns.toNatClampNeg ≤ hk ∧
  ∀ i : Int32, 0 ≤ i → i < acts → (r8 (ns + 7 - i)).toNatClampNeg < hk ∧ RS (st (r8 (ns + 7 - i)).toNatClampNeg) (fun j => kept (2442 * (r8 (eldest + acts - 1 - i)).toNatClampNeg + j))
theorem r8_rng {a : Int32} (h0 : 0 ≤ a) (h1 : a < 24) : 0 ≤ r8 a ∧ r8 a < 8 := by
  rw [r8_ok h0 h1]; grind
theorem kp_core {u e : Int32} {w kept : Nat → Int32} (h0 : 0 ≤ u) (h1 : u < 8) (h2 : 0 ≤ e) (h3 : e < 8) : ∃ k', f_Y8_keepsFrom_o_w_J32 u e w kept = some (u + 1, e, k') ∧ (∀ j : Nat, j < 2442 → k' (2442 * (r8 (e + u)).toNatClampNeg + j) = w j) ∧ ∀ x : Int32, 0 ≤ x → x < 8 → x ≠ r8 (e + u) → ∀ j : Nat, j < 2442 → k' (2442 * x.toNatClampNeg + j) = kept (2442 * x.toNatClampNeg + j) := by
  have hr := r8_rng (a := e + u) (by grind) (by grind)
  obtain ⟨m1, m2, m3⟩ := tn_2442 hr.1 hr.2
  obtain ⟨k', q1, q2, q3⟩ := kp_loop (at9 := 2442 * r8 (e + u)) (u := u) (e := e) (w := w) (kept := kept) m2 m3
  rw [m1] at q2 q3
  refine ⟨k', ?_, q2, ?_⟩
  · unfold f_Y8_keepsFrom_o_w_J32 f_Y8_keptAt
    simp only [bnd1, Option.bind_some]
    rw [show (e + u) - (e + u) / 8 * 8 = r8 (e + u) from rfl, q1]; rfl
  · intro x x0 x1 x2 j hj
    refine q3 _ ?_
    have d1 : x.toNatClampNeg ≠ (r8 (e + u)).toNatClampNeg := fun z => x2 ((tn_inj x0 hr.1).mp z)
    omega
theorem r8_lo {a : Int32} (h0 : 0 ≤ a) (h1 : a < 8) : r8 a = a := by rw [r8_ok h0 (by grind), if_pos h1]
theorem r8_hi {a : Int32} (h0 : 8 ≤ a) (h1 : a < 16) : r8 a = a - 8 := by rw [r8_ok (by grind) (by grind), if_neg (by grind), if_pos h1]
theorem ar2 {e u i : Int32} (u0 : 0 ≤ u) (u1 : u < 8) (e0 : 0 ≤ e) (e1 : e < 8) (i0 : 1 ≤ i) (i1 : i < u + 1) : r8 (e + (u + 1) - 1 - i) = r8 (e + u - 1 - (i - 1)) ∧ r8 (e + (u + 1) - 1 - i) ≠ r8 (e + u) ∧ i - 1 < u := by
  refine ⟨by congr 1; grind, ?_, by grind⟩
  by_cases a : e + u < 8
  · rw [r8_lo (a := e + u) (by grind) a, r8_lo (by grind) (by grind)]; grind
  · rw [r8_hi (a := e + u) (by grind) (by grind)]
    by_cases b : e + (u + 1) - 1 - i < 8
    · rw [r8_lo (by grind) b]; grind
    · rw [r8_hi (by grind) (by grind)]; grind
theorem ar1 {e i : Int32} (e0 : 0 ≤ e) (e1 : e < 8) (i0 : 1 ≤ i) (i1 : i < 7 + 1) : r8 (r8 (e + 1) + (7 + 1) - 1 - i) = r8 (e + 8 - 1 - (i - 1)) ∧ r8 (r8 (e + 1) + (7 + 1) - 1 - i) ≠ r8 (r8 (e + 1) + 7) ∧ i - 1 < 8 := by
  have hr := r8_rng (a := e + 1) (by grind) (by grind)
  obtain ⟨-, c2, -⟩ := ar2 (e := r8 (e + 1)) (u := 7) (i := i) (by decide) (by decide) hr.1 hr.2 i0 i1
  refine ⟨?_, c2, by grind⟩
  by_cases a : e + 1 < 8
  · rw [r8_lo (a := e + 1) (by grind) a]; congr 1; grind
  · have : e = 7 := by grind
    subst this
    rw [show r8 (7 + 1) = 0 from by decide]
    by_cases b : i = 8
    · grind
    · rw [r8_lo (by grind) (by grind), r8_hi (by grind) (by grind)]; grind
theorem ar3 {n i : Int32} (n0 : 0 ≤ n) (n1 : n < 8) (i0 : 1 ≤ i) (i1 : i < 8) : r8 (r8 (n + 1) + 7 - i) = r8 (n + 7 - (i - 1)) ∧ r8 (n + 7 - (i - 1)) ≠ n := by
  by_cases a : n + 1 < 8
  · rw [r8_lo (a := n + 1) (by grind) a]
    refine ⟨by congr 1; grind, ?_⟩
    by_cases b : n + 7 - (i - 1) < 8
    · rw [r8_lo (by grind) b]; grind
    · rw [r8_hi (by grind) (by grind)]; grind
  · have : n = 7 := by grind
    subst this
    rw [show r8 (7 + 1) = 0 from by decide, r8_lo (a := 0 + 7 - i) (by grind) (by grind), r8_hi (by grind) (by grind)]
    grind
theorem ar4 {n : Int32} (n0 : 0 ≤ n) (n1 : n < 8) : r8 (r8 (n + 1) + 7 - 0) = n := by
  by_cases a : n + 1 < 8
  · rw [r8_lo (a := n + 1) (by grind) a, r8_hi (by grind) (by grind)]; grind
  · have : n = 7 := by grind
    subst this
    decide
theorem ar5 {n : Int32} (n0 : 0 ≤ n) (n1 : n < 8) : (r8 (n + 1)).toNatClampNeg ≤ n.toNatClampNeg + 1 := by
  have t1 := tn_add (a := n) (b := 1) n0 (by decide) (by grind) (by decide)
  have t2 : (1 : Int32).toNatClampNeg = 1 := rfl
  by_cases a : n + 1 < 8
  · rw [r8_lo (by grind) a]; omega
  · have : n = 7 := by grind
    subst this
    decide
theorem remember_keep {z : StT} {acts ns undos eldest : Int32} {hk : Nat} {st : Nat → StT} {kept w : Nat → Int32} (hz : RS z w) (hU : RU acts ns hk st undos eldest kept) :
    ∃ a' ns' hk' st' u' e' k', f_X7_remember acts ns hk st z.tod z.prods z.icnt z.itm z.bks z.trm z.lan z.pos z.rom z.gp z.plc z.pkd z.plot z.ppc z.pmk z.pbd z.lcn z.lpr z.lla z.lco z.lst z.lbl z.ocn z.gif z.ocu z.opr z.oop z.odu z.oli z.obd z.oha z.ost = some (a', ns', hk', st') ∧ f_Y8_keep undos eldest w kept = some (u', e', k') ∧ RU a' ns' hk' st' u' e' k' := by
  obtain ⟨rfl, u1, u2, n1, n2, e1, e2, hk1, hst⟩ := hU
  obtain ⟨v, v1, v2⟩ := copyT_ok (remOld hk st ns.toNatClampNeg) z
  have hns : ns.toNatClampNeg < (8 : Int32).toNatClampNeg := tn_lt n1 n2
  -- the model's side, with the eldest row given up where all are in use
  obtain ⟨ub, eb, b1, b2, b3, b4, b5, b6, b7⟩ : ∃ ub eb : Int32, 0 ≤ ub ∧ ub < 8 ∧ 0 ≤ eb ∧ eb < 8 ∧ f_Y8_keepsFrom_o_w acts eldest w kept = f_Y8_keepsFrom_o_w_J32 ub eb w kept ∧ (if 8 < acts + 1 then (8 : Int32) else acts + 1) = ub + 1 ∧ ∀ i : Int32, 1 ≤ i → i < ub + 1 → r8 (eb + (ub + 1) - 1 - i) = r8 (eldest + acts - 1 - (i - 1)) ∧ r8 (eb + (ub + 1) - 1 - i) ≠ r8 (eb + ub) ∧ i - 1 < acts := by
    unfold f_Y8_keepsFrom_o_w
    by_cases h8 : acts = 8
    · subst h8
      have hr0 := r8_rng (a := eldest + 1) (by clear hst hz v1 v2; grind) (by clear hst hz v1 v2; grind)
      refine ⟨7, r8 (eldest + 1), by decide, by decide, hr0.1, hr0.2, ?_, by decide, ?_⟩
      · rw [if_pos rfl]; rfl
      · intro i i1 i2
        exact ar1 e1 e2 i1 i2
    · have h9 : acts < 8 := by clear hst hz v1 v2; grind
      refine ⟨acts, eldest, u1, h9, e1, e2, by rw [if_neg h8], by clear hst hz v1 v2; grind, ?_⟩
      intro i i1 i2
      exact ar2 u1 h9 e1 e2 i1 i2
  obtain ⟨k', q1, q2, q3⟩ := kp_core (w := w) (kept := kept) b1 b2 b3 b4
  refine ⟨ub + 1, r8 (ns + 1), if ns.toNatClampNeg < hk then hk else hk + 1, fun i => if i = ns.toNatClampNeg then v else st i, ub + 1, eb, k', ?_, ?_, ?_⟩
  · unfold f_X7_remember gn
    rw [gd_8 n1 n2, if_pos hk1, v1]
    simp only [bnd1, Option.bind_some]
    rw [b6]; rfl
  · unfold f_Y8_keep
    rw [b5, q1]; rfl
  · clear b5 b6 q1 v1
    have hr1 := r8_rng (a := ns + 1) (by clear hst hz v2; grind) (by clear hst hz v2; grind)
    have hns1 := ar5 n1 n2
    have hu1 : 0 ≤ ub + 1 := by clear hst hz v2; grind
    have hu2 : ub + 1 ≤ 8 := by clear hst hz v2; grind
    refine ⟨rfl, hu1, hu2, hr1.1, hr1.2, b3, b4, by split <;> omega, ?_⟩
    intro i i0 i1
    by_cases hi : i = 0
    · subst hi
      have s2 : r8 (eb + (ub + 1) - 1 - 0) = r8 (eb + ub) := by congr 1; clear hst hz v2; grind
      rw [ar4 n1 n2, s2]
      refine ⟨by split <;> omega, ?_⟩
      dsimp only
      rw [if_pos rfl]
      exact RS_re (w := w) (fun j hj => q2 j hj) (RS_se v2 hz)
    · have i2 : 1 ≤ i := by clear hst hz v2; grind
      have i3 : 0 ≤ i - 1 := by clear hst hz v2; grind
      have i4 : i < 8 := by clear hst hz v2; grind
      obtain ⟨c1, c2, c3⟩ := b7 i i2 i1
      obtain ⟨s1, s2⟩ := ar3 n1 n2 i2 i4
      have s3 := r8_rng (a := ns + 7 - (i - 1)) (by clear hst hz v2; grind) (by clear hst hz v2; grind)
      have s4 := r8_rng (a := eldest + acts - 1 - (i - 1)) (by clear hst hz v2; grind) (by clear hst hz v2; grind)
      obtain ⟨t1, t2⟩ := hst (i - 1) i3 c3
      rw [s1]
      refine ⟨by split <;> omega, ?_⟩
      dsimp only
      rw [if_neg (fun z => s2 ((tn_inj s3.1 n1).mp z)), c1]
      exact RS_re (fun j hj => q3 _ s4.1 s4.2 (by rw [← c1]; exact c2) j hj) t2
