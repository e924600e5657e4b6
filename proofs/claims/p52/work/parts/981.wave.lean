/-! ===== the wave ===== -/
theorem x_wave {w : Nat → Int32} {acts : Int32} {ns : Int32} {hk : Nat} {st : Nat → StT} {tod : Int32} {prods : Int32} {icnt : Int32} {itm : Nat → Int32} {bks : Nat → Int32} {trm : Nat → Int32} {lan : Int32} {pos : Int32} {rom : Int32} {gp : Int32} {plc : Int32} {pkd : Int64} {plot : Nat → Int32} {ppc : Nat → Int32} {pmk : Nat → Int32} {pbd : Nat → Int32} {lcn : Int32} {lpr : Nat → Int32} {lla : Nat → Int32} {lco : Nat → Int32} {lst : Nat → Int32} {lbl : Nat → Int32} {ocn : Int32} {gif : Int32} {ocu : Nat → Int32} {opr : Nat → Int32} {oop : Nat → Int32} {odu : Nat → Int32} {oli : Nat → Int32} {obd : Nat → Int32} {oha : Nat → Int32} {ost : Nat → Int32} {rest : Nat → Int32} {r : Int32} {acts' : Int32} {ns' : Int32} {hk' : Nat} {st' : Nat → StT} {bks' : Nat → Int32} {pkd' : Int64} {plot' : Nat → Int32} {ppc' : Nat → Int32} {pmk' : Nat → Int32} {gif' : Int32} {oop' : Nat → Int32} {oha' : Nat → Int32} {ost' : Nat → Int32} {rest' : Nat → Int32} (hD : QD tod prods lan pos rom gp plc lcn ocn w) (hP : QP plc rom lcn plot ppc pmk w) (hLs : QLs lcn lla lbl) (hO : QO ocn prods ocu opr oop odu oli w) (hOs : QLs ocn odu obd) (hm : ∀ n : Int32, 0 ≤ n → n < plc → ix pmk n ≠ 2) (h : f_X7_wave acts ns hk st tod prods icnt itm bks trm lan pos rom gp plc pkd plot ppc pmk pbd lcn lpr lla lco lst lbl ocn gif ocu opr oop odu oli obd oha ost rest = some (r, acts', ns', hk', st', bks', pkd', plot', ppc', pmk', gif', oop', oha', ost', rest')) : bks' = upd bks (1 : Int32).toNatClampNeg (bks (1 : Int32).toNatClampNeg + r) ∧ isum (ix oop') ocn.toNatClampNeg + r = isum (ix oop) ocn.toNatClampNeg ∧ QK plc pkd' (mkw plc pmk') ∧ HF ocn lpr lla lst opr odu oli oha oha' ∧ ∀ (p : Int32) (crest : Nat → Int32), ∃ r', f_X7_leftOpen p plc pkd plot ppc pmk pbd lcn lpr lla lst lbl ocn gif opr oop odu oli obd oha ost crest = some (opn p ocn opr oop', pkd, plot, ppc, pmk, gif, oop, oha, ost, r') := by
  obtain ⟨d0, d1, d2, d3, d4, d5, d6, d7, d8, d9, d10, d11, d12, d13, d14, d15, d16, d17, d18, d19, d20, d21, d22, d23, d24, d25, d26⟩ := id hD
  have hw : w 1 * w 2 = plc := by rw [d3, d6, d15]
  have p0 : 0 ≤ plc := by clear hD hP hLs hO hOs hm h; grind
  unfold f_X7_wave at h
  obtain ⟨q1, q2, q3, q4, -, h⟩ := ob4 h
  obtain ⟨rw', e1, h⟩ := ob1 h
  obtain ⟨z1, z2, z3, z4, z5, z6, z7, z8, z9, z10, e2, h⟩ := ob10 h
  obtain ⟨_, h⟩ := ob_d h
  obtain ⟨_, h⟩ := ob_d h
  cases h
  obtain ⟨rw2, c1, c2⟩ := count_pof hw d16 d17 d23 hP rest
  rw [c1] at e1
  cases e1
  have pof0 : ∀ l : Int32, 0 ≤ l → l < lcn → 0 ≤ ix rw' l := fun l l0 l1 => by
    rw [c2 l l0 (Int32.lt_of_lt_of_le l1 d23), i_le]
    exact (pof_rng (l := l) p0 d17 d11 d10 hP).1
  have e3 : loop (wvl plc pbd lcn lpr lla lst lbl ocn opr odu oli obd) fu (0, 0, 0, plot, ppc, pmk, gif, oop, oha, ost, rw') = some (r, pkd', plot', ppc', pmk', gif', oop', oha', ost', rest') := e2
  obtain ⟨w1, w2, w3⟩ := wave_ft hD hLs hOs (fun o o0 o1 => by
    obtain ⟨-, -, -, -, -, -, -, a, b, -⟩ := hO o o0 o1
    exact ⟨a, b⟩) pof0 hm e3
  refine ⟨rfl, w1, w2, w3, fun p crest => ?_⟩
  obtain ⟨rw3, c3, c4⟩ := count_pof hw d16 d17 d23 hP crest
  have he : ∀ n k x, ocn ≤ k → wvl plc pbd lcn lpr lla lst lbl ocn opr odu oli obd (n, k, x) = some (.inr (n, x)) := fun n k x hk => if_pos hk
  have hs : ∀ n k (x : X9), 0 ≤ k → k < ocn → wvl plc pbd lcn lpr lla lst lbl ocn opr odu oli obd (n, k, x) = bnd10 (f_X7_serve (ix obd k) 1 plc x.1 x.2.1 x.2.2.1 x.2.2.2.1 pbd lcn lpr lla lst lbl ocn x.2.2.2.2.1 opr x.2.2.2.2.2.1 odu oli x.2.2.2.2.2.2.1 x.2.2.2.2.2.2.2.1 x.2.2.2.2.2.2.2.2) (fun r o1 o2 o3 o4 o5 o6 o7 o8 o9 => some (.inl (n + r, k + 1, o1, o2, o3, o4, o5, o6, o7, o8, o9))) := fun n k x k0 k1 => by
    unfold wvl
    dsimp only
    rw [if_neg (Int32.not_le.mpr k1), gd_40 k0 (Int32.lt_of_lt_of_le k1 d26)]
  obtain ⟨r2, t1⟩ := s_dry (p := p) (y := (pkd, plot, ppc, pmk, gif, oop, oha, ost)) (rest0 := rw3) (x := (0, plot, ppc, pmk, gif, oop, oha, ost, rw')) d22 d23 d25 d26 hLs.1 hO hOs pof0 rfl (fun l l0 l1 => by rw [c4 l l0 (Int32.lt_of_lt_of_le l1 d23), c2 l l0 (Int32.lt_of_lt_of_le l1 d23)]) he hs e3
  refine ⟨r2, ?_⟩
  unfold f_X7_leftOpen
  rw [c3]
  simp only [bnd1, Option.bind_some]
  have t1' : loop (fun z : Int32 × Int32 × X9 => f_X7_leftOpen_L18 p plc pbd lcn lpr lla lst lbl ocn opr odu oli obd z.1 z.2.1 z.2.2.1 z.2.2.2.1 z.2.2.2.2.1 z.2.2.2.2.2.1 z.2.2.2.2.2.2.1 z.2.2.2.2.2.2.2.1 z.2.2.2.2.2.2.2.2.1 z.2.2.2.2.2.2.2.2.2.1 z.2.2.2.2.2.2.2.2.2.2) fu (0, 0, pkd, plot, ppc, pmk, gif, oop, oha, ost, rw3) = some (opn p ocn opr oop', yx (pkd, plot, ppc, pmk, gif, oop, oha, ost) r2) := t1
  rw [t1']
  rfl
theorem t_wv1 {acts : Int32} {bks : Nat → Int32} {cl : Nat} {cq : Nat → Int32} {gif : Int32} {gp : Int32} {hk : Nat} {icnt : Int32} {itm : Nat → Int32} {la : Int32} {lan : Int32} {lbl : Nat → Int32} {lcn : Int32} {lco : Nat → Int32} {lla : Nat → Int32} {lpr : Nat → Int32} {lst : Nat → Int32} {lt : Int32} {nn : Int32} {ns : Int32} {obd : Nat → Int32} {ocn : Int32} {ocu : Nat → Int32} {od : Int32} {odu : Nat → Int32} {oha : Nat → Int32} {oli : Nat → Int32} {oop : Nat → Int32} {opr : Nat → Int32} {ost : Nat → Int32} {pbd : Nat → Int32} {pkd : Int64} {plc : Int32} {plot : Nat → Int32} {pmk : Nat → Int32} {po : Int32} {pos : Int32} {ppc : Nat → Int32} {pr : Int32} {prods : Int32} {rest : Nat → Int32} {rom : Int32} {st : Nat → StT} {tod : Int32} {trm : Nat → Int32} {w : Nat → Int32} {x : Int32} (hD : QD tod prods lan pos rom gp plc lcn ocn w) (hP : QP plc rom lcn plot ppc pmk w) (hL : QL lcn prods lpr lla lco lst w) (hLs : QLs lcn lla lbl) (hO : QO ocn prods ocu opr oop odu oli w) (hOs : QLs ocn odu obd) (hp : pr = prods) (hod : od = ocn) (hcl : cl = prods.toNatClampNeg) (hoc : ocn ≤ 9) (hop : ∀ o : Int32, 0 ≤ o → o < ocn → 1 ≤ ix oop o) : ∃ e, loop (fun z : Int32 × Int64 × (Nat → Int32) × (Nat → Int32) × (Nat → Int32) × Int32 × (Nat → Int32) × (Nat → Int32) × (Nat → Int32) × (Nat → Int32) × Int32 × (Nat → Int32) => f_L_isWave_L11 nn la po pr lt od acts ns hk st tod prods icnt itm bks trm lan pos rom gp plc pbd lcn lpr lla lco lst lbl ocn ocu opr odu oli obd cl z.1 z.2.1 z.2.2.1 z.2.2.2.1 z.2.2.2.2.1 z.2.2.2.2.2.1 z.2.2.2.2.2.2.1 z.2.2.2.2.2.2.2.1 z.2.2.2.2.2.2.2.2.1 z.2.2.2.2.2.2.2.2.2.1 z.2.2.2.2.2.2.2.2.2.2.1 z.2.2.2.2.2.2.2.2.2.2.2) 10 (0, pkd, plot, ppc, pmk, gif, oop, oha, ost, rest, x, cq) = some e ∧ (∃ r x c, e = .inr ((pkd, plot, ppc, pmk, gif, oop, oha, ost, r, x, c)) ∧ ∀ p : Int32, 0 ≤ p → p < prods → ∃ r1 r2 : Nat → Int32, f_X7_leftOpen p plc pkd plot ppc pmk pbd lcn lpr lla lst lbl ocn gif opr oop odu oli obd oha ost r1 = some (ix c p, pkd, plot, ppc, pmk, gif, oop, oha, ost, r2)) := by
  subst hp hod hcl
  have hD0 := hD
  obtain ⟨d0, d1, d2, d3, d4, d5, d6, d7, d8, d9, d10, d11, d12, d13, d14, d15, d16, d17, d18, d19, d20, d21, d22, d23, d24, d25, d26⟩ := hD0
  refine lp_one (f := fun z : Int32 × Int64 × (Nat → Int32) × (Nat → Int32) × (Nat → Int32) × Int32 × (Nat → Int32) × (Nat → Int32) × (Nat → Int32) × (Nat → Int32) × Int32 × (Nat → Int32) => f_L_isWave_L11 nn la po pr lt od acts ns hk st tod prods icnt itm bks trm lan pos rom gp plc pbd lcn lpr lla lco lst lbl ocn ocu opr odu oli obd cl z.1 z.2.1 z.2.2.1 z.2.2.2.1 z.2.2.2.2.1 z.2.2.2.2.2.1 z.2.2.2.2.2.2.1 z.2.2.2.2.2.2.2.1 z.2.2.2.2.2.2.2.2.1 z.2.2.2.2.2.2.2.2.2.1 z.2.2.2.2.2.2.2.2.2.2.1 z.2.2.2.2.2.2.2.2.2.2.2) (fun z => 0 ≤ z.1 ∧ z.1 ≤ prods ∧ z.2.1 = pkd ∧ z.2.2.1 = plot ∧ z.2.2.2.1 = ppc ∧ z.2.2.2.2.1 = pmk ∧ z.2.2.2.2.2.1 = gif ∧ z.2.2.2.2.2.2.1 = oop ∧ z.2.2.2.2.2.2.2.1 = oha ∧ z.2.2.2.2.2.2.2.2.1 = ost ∧ ∀ p : Int32, 0 ≤ p → p < z.1 → ∃ r1 r2 : Nat → Int32, f_X7_leftOpen p plc pkd plot ppc pmk pbd lcn lpr lla lst lbl ocn gif opr oop odu oli obd oha ost r1 = some (ix z.2.2.2.2.2.2.2.2.2.2.2 p, pkd, plot, ppc, pmk, gif, oop, oha, ost, r2)) (fun e => ∃ r x c, e = .inr ((pkd, plot, ppc, pmk, gif, oop, oha, ost, r, x, c)) ∧ ∀ p : Int32, 0 ≤ p → p < prods → ∃ r1 r2 : Nat → Int32, f_X7_leftOpen p plc pkd plot ppc pmk pbd lcn lpr lla lst lbl ocn gif opr oop odu oli obd oha ost r1 = some (ix c p, pkd, plot, ppc, pmk, gif, oop, oha, ost, r2)) (fun z => msr z.1 pr) ?_ 10 (0, pkd, plot, ppc, pmk, gif, oop, oha, ost, rest, x, cq) ⟨by dsimp only; decide, d19, rfl, rfl, rfl, rfl, rfl, rfl, rfl, rfl, fun p p0 p1 => absurd p1 (by dsimp only; clear hD hP hL hLs hO hOs hop; grind)⟩ (by
    have := i_le.mp d20
    rw [show (6 : Int32).toInt = 6 from rfl] at this
    unfold msr
    rw [show (0 : Int32).toInt = 0 from rfl]
    omega)
  rintro ⟨k, pkd', plot', ppc', pmk', gif', oop', oha', ost', rest, x, cq⟩ ⟨g1, g2, e_pkd, e_plot, e_ppc, e_pmk, e_gif, e_oop, e_oha, e_ost, g3⟩
  dsimp only at g1 g2 e_pkd e_plot e_ppc e_pmk e_gif e_oop e_oha e_ost g3 ⊢
  subst e_pkd e_plot e_ppc e_pmk e_gif e_oop e_oha e_ost
  unfold f_L_isWave_L11
  by_cases hn : pr ≤ k
  · have : k = pr := by clear hD hP hL hLs hO hOs hop g3; grind
    subst this
    exact Or.inr ⟨_, by rw [if_pos hn], _, _, _, rfl, g3⟩
  · left
    have hn' : k < pr := Int32.not_le.mp hn
    obtain ⟨r1, x1, y1⟩ := t_proved (gif := gif) (pkd := pkd) (pmk := pmk) (pbd := pbd) (oha := oha) (ost := ost) (rest := rest) hD hP hL hLs hO hOs g1 hn' rfl hoc hop x
    obtain ⟨m, r2, y2, y3, y4, y5⟩ := a_unf (gif := gif) (pkd := pkd) (pbd := pbd) (oha := oha) (ost := ost) (rest := r1) (p := k) hD hP hL hLs hO hOs
    refine ⟨_, by rw [if_neg hn, y1, bnd11_s, if_neg one_ne]; unfold f_X7_unfilled; rw [n_needProduct, if_pos ⟨g1, hn'⟩, bnd1_s, mxo, y2, bnd10_s, bnd10_s, mxo, gdx g1 (by have := tn_lt g1 hn'; rw [i_tn, i_tn] at this; rw [i_tn]; omega)], ⟨by dsimp only; clear hD hP hL hLs hO hOs hop g3; grind, by dsimp only; clear hD hP hL hLs hO hOs hop g3; grind, rfl, rfl, rfl, rfl, rfl, rfl, rfl, rfl, ?_⟩, msr_lt hn'⟩
    intro p p0 p1
    dsimp only at p1 ⊢
    have u : ix (upd cq k.toNatClampNeg m) p = if p = k then m else ix cq p := upd_at g1 p0
    rw [u]
    by_cases hk : p = k
    · rw [if_pos hk, hk]; exact ⟨r1, r2, y2⟩
    · rw [if_neg hk]; exact g3 p p0 (by clear hD hP hL hLs hO hOs hop g3; grind)
