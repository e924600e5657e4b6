/-! ===== the wave ===== -/
theorem x_wave {w : Nat → Int32} {acts : Int32} {ns : Int32} {hk : Nat} {st : Nat → StT} {tod : Int32} {prods : Int32} {icnt : Int32} {itm : Nat → Int32} {bks : Nat → Int32} {trm : Nat → Int32} {lan : Int32} {pos : Int32} {rom : Int32} {gp : Int32} {plc : Int32} {pkd : Int64} {plot : Nat → Int32} {ppc : Nat → Int32} {pmk : Nat → Int32} {pbd : Nat → Int32} {lcn : Int32} {lpr : Nat → Int32} {lla : Nat → Int32} {lco : Nat → Int32} {lst : Nat → Int32} {lbl : Nat → Int32} {ocn : Int32} {gif : Int32} {ocu : Nat → Int32} {opr : Nat → Int32} {oop : Nat → Int32} {odu : Nat → Int32} {oli : Nat → Int32} {obd : Nat → Int32} {oha : Nat → Int32} {ost : Nat → Int32} {rest : Nat → Int32} {r : Int32} {acts' : Int32} {ns' : Int32} {hk' : Nat} {st' : Nat → StT} {bks' : Nat → Int32} {pkd' : Int64} {plot' : Nat → Int32} {ppc' : Nat → Int32} {pmk' : Nat → Int32} {gif' : Int32} {oop' : Nat → Int32} {oha' : Nat → Int32} {ost' : Nat → Int32} {rest' : Nat → Int32} (hD : QD tod prods lan pos rom gp plc lcn ocn w) (hP : QP plc rom lcn plot ppc pmk w) (hLs : QLs lcn lla lbl) (hO : QO ocn prods ocu opr oop odu oli w) (hOs : QLs ocn odu obd) (hm : ∀ n : Int32, 0 ≤ n → n < plc → ix pmk n ≠ 2) (h : f_X7_wave acts ns hk st tod prods icnt itm bks trm lan pos rom gp plc pkd plot ppc pmk pbd lcn lpr lla lco lst lbl ocn gif ocu opr oop odu oli obd oha ost rest = some (r, acts', ns', hk', st', bks', pkd', plot', ppc', pmk', gif', oop', oha', ost', rest')) : bks' = upd bks (1 : Int32).toNatClampNeg (bks (1 : Int32).toNatClampNeg + r) ∧ isum (ix oop') ocn.toNatClampNeg + r = isum (ix oop) ocn.toNatClampNeg ∧ QK plc pkd' (mkw plc pmk') ∧ HF ocn lpr lla lst opr odu oli oha oha' ∧ ∀ (p : Int32) (crest : Nat → Int32), ∃ r', f_X7_leftOpen p plc pkd plot ppc pmk pbd lcn lpr lla lst lbl ocn gif opr oop odu oli obd oha ost crest = some (opn p ocn opr oop', pkd, plot, ppc, pmk, gif, oop, oha, ost, r') := by
  obtain ⟨d0, d1, d2, d3, d4, d5, d6, d7, d8, d9, d10, d11, d12, d13, d14, d15, d16, d17, d18, d19, d20, d21, d22, d23, d24, d25, d26⟩ := id hD
  have hw : w 1 * w 2 = plc := by rw [d3, d6, d15]
  have p0 : 0 ≤ plc := by clear hD hP hLs hO hOs hm h; grind
  unfold f_X7_wave at h
  obtain ⟨q1, q2, q3, q4, -, h⟩ := ob4 h
  obtain ⟨rw', e1, h⟩ := ob1 h
  obtain ⟨z1, z2, z3, z4, z5, z6, z7, z8, z9, z10, e2, h⟩ := ob10 h
  obtain ⟨_, h⟩ := ob_d h
  obtain ⟨_, h⟩ := ob_d h
  cases h
  obtain ⟨rw2, c1, c2⟩ := count_pof hw d16 d17 d23 hP rest
  rw [c1] at e1
  cases e1
  have pof0 : ∀ l : Int32, 0 ≤ l → l < lcn → 0 ≤ ix rw' l := fun l l0 l1 => by
    rw [c2 l l0 (Int32.lt_of_lt_of_le l1 d23), i_le]
    exact (pof_rng (l := l) p0 d17 d11 d10 hP).1
  have e3 : loop (wvl plc pbd lcn lpr lla lst lbl ocn opr odu oli obd) fu (0, 0, 0, plot, ppc, pmk, gif, oop, oha, ost, rw') = some (r, pkd', plot', ppc', pmk', gif', oop', oha', ost', rest') := e2
  obtain ⟨w1, w2, w3⟩ := wave_ft hD hLs hOs (fun o o0 o1 => by
    obtain ⟨-, -, -, -, -, -, -, a, b, -⟩ := hO o o0 o1
    exact ⟨a, b⟩) pof0 hm e3
  refine ⟨rfl, w1, w2, w3, fun p crest => ?_⟩
  obtain ⟨rw3, c3, c4⟩ := count_pof hw d16 d17 d23 hP crest
  have he : ∀ n k x, ocn ≤ k → wvl plc pbd lcn lpr lla lst lbl ocn opr odu oli obd (n, k, x) = some (.inr (n, x)) := fun n k x hk => if_pos hk
  have hs : ∀ n k (x : X9), 0 ≤ k → k < ocn → wvl plc pbd lcn lpr lla lst lbl ocn opr odu oli obd (n, k, x) = bnd10 (f_X7_serve (ix obd k) 1 plc x.1 x.2.1 x.2.2.1 x.2.2.2.1 pbd lcn lpr lla lst lbl ocn x.2.2.2.2.1 opr x.2.2.2.2.2.1 odu oli x.2.2.2.2.2.2.1 x.2.2.2.2.2.2.2.1 x.2.2.2.2.2.2.2.2) (fun r o1 o2 o3 o4 o5 o6 o7 o8 o9 => some (.inl (n + r, k + 1, o1, o2, o3, o4, o5, o6, o7, o8, o9))) := fun n k x k0 k1 => by
    unfold wvl
    dsimp only
    rw [if_neg (Int32.not_le.mpr k1), gd_40 k0 (Int32.lt_of_lt_of_le k1 d26)]
  obtain ⟨r2, t1⟩ := s_dry (p := p) (y := (pkd, plot, ppc, pmk, gif, oop, oha, ost)) (rest0 := rw3) (x := (0, plot, ppc, pmk, gif, oop, oha, ost, rw')) d22 d23 d25 d26 hLs.1 hO hOs pof0 rfl (fun l l0 l1 => by rw [c4 l l0 (Int32.lt_of_lt_of_le l1 d23), c2 l l0 (Int32.lt_of_lt_of_le l1 d23)]) he hs e3
  refine ⟨r2, ?_⟩
  unfold f_X7_leftOpen
  rw [c3]
  simp only [bnd1, Option.bind_some]
  have t1' : loop (fun z : Int32 × Int32 × X9 => f_X7_leftOpen_L18 p plc pbd lcn lpr lla lst lbl ocn opr odu oli obd z.1 z.2.1 z.2.2.1 z.2.2.2.1 z.2.2.2.2.1 z.2.2.2.2.2.1 z.2.2.2.2.2.2.1 z.2.2.2.2.2.2.2.1 z.2.2.2.2.2.2.2.2.1 z.2.2.2.2.2.2.2.2.2.1 z.2.2.2.2.2.2.2.2.2.2) fu (0, 0, pkd, plot, ppc, pmk, gif, oop, oha, ost, rw3) = some (opn p ocn opr oop', yx (pkd, plot, ppc, pmk, gif, oop, oha, ost) r2) := t1
  rw [t1']
  rfl
theorem t_wv1 {acts : Int32} {bks : Nat → Int32} {cq : Nat → Int32} {gif : Int32} {gp : Int32} {hk : Nat} {icnt : Int32} {itm : Nat → Int32} {lan : Int32} {lbl : Nat → Int32} {lcn : Int32} {lco : Nat → Int32} {lla : Nat → Int32} {lpr : Nat → Int32} {lst : Nat → Int32} {nn : Int32} {ns : Int32} {obd : Nat → Int32} {ocn : Int32} {ocu : Nat → Int32} {odu : Nat → Int32} {oha : Nat → Int32} {oli : Nat → Int32} {oop : Nat → Int32} {opr : Nat → Int32} {ost : Nat → Int32} {pbd : Nat → Int32} {pkd : Int64} {plc : Int32} {plot : Nat → Int32} {pmk : Nat → Int32} {pos : Int32} {ppc : Nat → Int32} {prods : Int32} {rest : Nat → Int32} {rom : Int32} {st : Nat → StT} {tod : Int32} {trm : Nat → Int32} {w : Nat → Int32} {x : Int32} (hD : QD tod prods lan pos rom gp plc lcn ocn w) (hP : QP plc rom lcn plot ppc pmk w) (hL : QL lcn prods lpr lla lco lst w) (hLs : QLs lcn lla lbl) (hO : QO ocn prods ocu opr oop odu oli w) (hOs : QLs ocn odu obd) (hoc : ocn ≤ 9) (hop : ∀ o : Int32, 0 ≤ o → o < ocn → 1 ≤ ix oop o) : ∃ e, loop (fun z : Int32 × Int64 × (Nat → Int32) × (Nat → Int32) × (Nat → Int32) × Int32 × (Nat → Int32) × (Nat → Int32) × (Nat → Int32) × (Nat → Int32) × Int32 × (Nat → Int32) => f_L_isWave_L11 nn lan pos prods lcn ocn acts ns hk st tod prods icnt itm bks trm lan pos rom gp plc pbd lcn lpr lla lco lst lbl ocn ocu opr odu oli obd prods.toNatClampNeg z.1 z.2.1 z.2.2.1 z.2.2.2.1 z.2.2.2.2.1 z.2.2.2.2.2.1 z.2.2.2.2.2.2.1 z.2.2.2.2.2.2.2.1 z.2.2.2.2.2.2.2.2.1 z.2.2.2.2.2.2.2.2.2.1 z.2.2.2.2.2.2.2.2.2.2.1 z.2.2.2.2.2.2.2.2.2.2.2) 10 (0, pkd, plot, ppc, pmk, gif, oop, oha, ost, rest, x, cq) = some e ∧ (∃ r x c, e = .inr ((pkd, plot, ppc, pmk, gif, oop, oha, ost, r, x, c)) ∧ ∀ p : Int32, 0 ≤ p → p < prods → ∃ r1 r2 : Nat → Int32, f_X7_leftOpen p plc pkd plot ppc pmk pbd lcn lpr lla lst lbl ocn gif opr oop odu oli obd oha ost r1 = some (ix c p, pkd, plot, ppc, pmk, gif, oop, oha, ost, r2)) := by
  have hD0 := hD
  obtain ⟨d0, d1, d2, d3, d4, d5, d6, d7, d8, d9, d10, d11, d12, d13, d14, d15, d16, d17, d18, d19, d20, d21, d22, d23, d24, d25, d26⟩ := hD0
  refine lp_one (f := fun z : Int32 × Int64 × (Nat → Int32) × (Nat → Int32) × (Nat → Int32) × Int32 × (Nat → Int32) × (Nat → Int32) × (Nat → Int32) × (Nat → Int32) × Int32 × (Nat → Int32) => f_L_isWave_L11 nn lan pos prods lcn ocn acts ns hk st tod prods icnt itm bks trm lan pos rom gp plc pbd lcn lpr lla lco lst lbl ocn ocu opr odu oli obd prods.toNatClampNeg z.1 z.2.1 z.2.2.1 z.2.2.2.1 z.2.2.2.2.1 z.2.2.2.2.2.1 z.2.2.2.2.2.2.1 z.2.2.2.2.2.2.2.1 z.2.2.2.2.2.2.2.2.1 z.2.2.2.2.2.2.2.2.2.1 z.2.2.2.2.2.2.2.2.2.2.1 z.2.2.2.2.2.2.2.2.2.2.2) (fun z => 0 ≤ z.1 ∧ z.1 ≤ prods ∧ pkd = z.2.1 ∧ plot = z.2.2.1 ∧ ppc = z.2.2.2.1 ∧ pmk = z.2.2.2.2.1 ∧ gif = z.2.2.2.2.2.1 ∧ oop = z.2.2.2.2.2.2.1 ∧ oha = z.2.2.2.2.2.2.2.1 ∧ ost = z.2.2.2.2.2.2.2.2.1 ∧ ∀ p : Int32, 0 ≤ p → p < z.1 → ∃ r1 r2 : Nat → Int32, f_X7_leftOpen p plc pkd plot ppc pmk pbd lcn lpr lla lst lbl ocn gif opr oop odu oli obd oha ost r1 = some (ix z.2.2.2.2.2.2.2.2.2.2.2 p, pkd, plot, ppc, pmk, gif, oop, oha, ost, r2)) (fun e => ∃ r x c, e = .inr ((pkd, plot, ppc, pmk, gif, oop, oha, ost, r, x, c)) ∧ ∀ p : Int32, 0 ≤ p → p < prods → ∃ r1 r2 : Nat → Int32, f_X7_leftOpen p plc pkd plot ppc pmk pbd lcn lpr lla lst lbl ocn gif opr oop odu oli obd oha ost r1 = some (ix c p, pkd, plot, ppc, pmk, gif, oop, oha, ost, r2)) (fun z => msr z.1 prods) ?_ 10 (0, pkd, plot, ppc, pmk, gif, oop, oha, ost, rest, x, cq) ⟨by dsimp only; decide, d19, rfl, rfl, rfl, rfl, rfl, rfl, rfl, rfl, fun p p0 p1 => absurd p1 (by dsimp only; clear hD hP hL hLs hO hOs hop; grind)⟩ (by
    have := i_le.mp d20
    rw [show (6 : Int32).toInt = 6 from rfl] at this
    unfold msr
    rw [show (0 : Int32).toInt = 0 from rfl]
    omega)
  rintro ⟨k, pkd', plot', ppc', pmk', gif', oop', oha', ost', rest, x, cq⟩ ⟨g1, g2, e_pkd, e_plot, e_ppc, e_pmk, e_gif, e_oop, e_oha, e_ost, g3⟩
  dsimp only at g1 g2 e_pkd e_plot e_ppc e_pmk e_gif e_oop e_oha e_ost g3 ⊢
  subst e_pkd e_plot e_ppc e_pmk e_gif e_oop e_oha e_ost
  unfold f_L_isWave_L11
  by_cases hn : prods ≤ k
  · have : k = prods := by clear hD hP hL hLs hO hOs hop g3; grind
    subst this
    exact Or.inr ⟨_, by rw [if_pos hn], _, _, _, rfl, g3⟩
  · left
    have hn' : k < prods := Int32.not_le.mp hn
    obtain ⟨r1, x1, y1⟩ := t_proved (gif := gif) (pkd := pkd) (pmk := pmk) (pbd := pbd) (oha := oha) (ost := ost) (rest := rest) hD hP hL hLs hO hOs g1 hn' rfl hoc hop x
    obtain ⟨m, r2, y2, y3, y4, y5⟩ := a_unf (gif := gif) (pkd := pkd) (pbd := pbd) (oha := oha) (ost := ost) (rest := r1) (p := k) hD hP hL hLs hO hOs
    refine ⟨(k + 1, pkd, plot, ppc, pmk, gif, oop, oha, ost, r2, x1, upd cq k.toNatClampNeg m), by rw [if_neg hn, y1, bnd11_s, if_neg one_ne]; unfold f_X7_unfilled; rw [n_needProduct, if_pos ⟨g1, hn'⟩, bnd1_s, mxo, y2, bnd10_s, bnd10_s, mxo, gdx g1 (by have := tn_lt g1 hn'; rw [i_tn, i_tn] at this; rw [i_tn]; omega)], ⟨by dsimp only; clear hD hP hL hLs hO hOs hop g3; grind, by dsimp only; clear hD hP hL hLs hO hOs hop g3; grind, rfl, rfl, rfl, rfl, rfl, rfl, rfl, rfl, ?_⟩, msr_lt hn'⟩
    intro p p0 p1
    dsimp only at p1 ⊢
    have u : ix (upd cq k.toNatClampNeg m) p = if p = k then m else ix cq p := upd_at g1 p0
    rw [u]
    by_cases hk : p = k
    · rw [if_pos hk, hk]; exact ⟨r1, r2, y2⟩
    · rw [if_neg hk]; exact g3 p p0 (by clear hD hP hL hLs hO hOs hop g3; grind)
theorem t_wv2 {acts : Int32} {bks : Nat → Int32} {cq : Nat → Int32} {gif : Int32} {gp : Int32} {hk : Nat} {icnt : Int32} {itm : Nat → Int32} {lan : Int32} {lbl : Nat → Int32} {lcn : Int32} {lco : Nat → Int32} {lla : Nat → Int32} {lpr : Nat → Int32} {lst : Nat → Int32} {ns : Int32} {obd : Nat → Int32} {ocn : Int32} {ocu : Nat → Int32} {odu : Nat → Int32} {oha : Nat → Int32} {oli : Nat → Int32} {oop : Nat → Int32} {opr : Nat → Int32} {ost : Nat → Int32} {pbd : Nat → Int32} {pkd : Int64} {plc : Int32} {plot : Nat → Int32} {pmk : Nat → Int32} {pos : Int32} {ppc : Nat → Int32} {prods : Int32} {rest : Nat → Int32} {rom : Int32} {st : Nat → StT} {tod : Int32} {trm : Nat → Int32} {x : Int32} (h0 : 0 ≤ ocn) (h1 : ocn ≤ 40) : ∃ e, loop (fun z : Int32 × Int32 => f_L_isWave_L48 lan pos prods lcn ocn acts ns hk st tod prods icnt itm bks trm lan pos rom gp plc pkd plot ppc pmk pbd lcn lpr lla lco lst lbl ocn gif ocu opr oop odu oli obd oha ost rest x prods.toNatClampNeg cq z.1 z.2) fu (0, 0) = some e ∧ e = isum (ix oop) ocn.toNatClampNeg := by
  refine ⟨_, sum_loop (F := ix oop) (N := ocn) h0 (by grind) (fun a n n0 n1 => ?_), rfl⟩
  dsimp only
  unfold f_L_isWave_L48
  by_cases hn : ocn ≤ n
  · rw [if_pos hn, if_pos hn]
  · rw [if_neg hn, if_neg hn, a_or2 h1 n0 (Int32.not_le.mp hn), bnd1_s, mxo]
theorem t_wv4 {acts : Int32} {bks : Nat → Int32} {cq : Nat → Int32} {gif : Int32} {gp : Int32} {hk : Nat} {icnt : Int32} {itm : Nat → Int32} {lan : Int32} {lbl : Nat → Int32} {lcn : Int32} {lco : Nat → Int32} {lla : Nat → Int32} {lpr : Nat → Int32} {lst : Nat → Int32} {n2 : Int32} {n4 : Int32} {n5 : Int32} {ns : Int32} {obd : Nat → Int32} {ocn : Int32} {ocu : Nat → Int32} {odu : Nat → Int32} {oha : Nat → Int32} {oli : Nat → Int32} {oop : Nat → Int32} {opr : Nat → Int32} {ost : Nat → Int32} {pbd : Nat → Int32} {pkd : Int64} {plc : Int32} {plot : Nat → Int32} {pmk : Nat → Int32} {pos : Int32} {ppc : Nat → Int32} {prods : Int32} {rest : Nat → Int32} {rom : Int32} {st : Nat → StT} {tod : Int32} {trm : Nat → Int32} {x : Int32} (l0 : 0 ≤ lcn) (l1 : lcn ≤ 24) (h1 : ocn ≤ 40) (q0 : 0 ≤ n5) (q1 : n5 < ocn) (hF : ∀ l : Int32, 0 ≤ l → l < lcn → 1 ≤ ix oha (n5 * 24 + l) → SF n5 lpr lla lst opr odu oli l) : ∃ e, loop (fun z : Int32 => f_L_isWave_L180 n2 n4 n5 (lse n5 lcn oha) lan pos prods lcn ocn acts ns hk st tod prods icnt itm bks trm lan pos rom gp plc pkd plot ppc pmk pbd lcn lpr lla lco lst lbl ocn gif ocu opr oop odu oli obd oha ost rest x prods.toNatClampNeg cq z) fu 0 = some e ∧ e = .inr () := by
  refine lp_one (f := fun z : Int32 => f_L_isWave_L180 n2 n4 n5 (lse n5 lcn oha) lan pos prods lcn ocn acts ns hk st tod prods icnt itm bks trm lan pos rom gp plc pkd plot ppc pmk pbd lcn lpr lla lco lst lbl ocn gif ocu opr oop odu oli obd oha ost rest x prods.toNatClampNeg cq z) (fun z => 0 ≤ z ∧ z ≤ lcn) (fun e => e = .inr ()) (fun z => msr z lcn) ?_ fu 0 ⟨by decide, l0⟩ (msr_fu (by decide) (by grind))
  rintro l ⟨g1, g2⟩
  unfold f_L_isWave_L180
  by_cases hn : lcn ≤ l
  · exact Or.inr ⟨_, by rw [if_pos hn], rfl⟩
  · left
    have hn' : l < lcn := Int32.not_le.mp hn
    refine ⟨l + 1, ?_, ⟨by clear hF; grind, by clear hF; grind⟩, msr_lt hn'⟩
    rw [if_neg hn]
    by_cases hb : ((lse n5 lcn oha >>> (l &&& 31)) &&& 1) = 1
    · obtain ⟨f1, f2, f3⟩ := hF l g1 hn' ((lse_bit l1 g1 hn').mp hb)
      rw [if_pos hb, a_lt2 l1 g1 hn', bnd1_s, mxo, a_or5 h1 q0 q1, bnd1_s, mxo, if_neg (Int32.not_lt.mpr f3), a_lt0 l1 g1 hn', bnd1_s, mxo, a_or1 h1 q0 q1, bnd1_s, mxo, if_pos f1, a_lt4 l1 g1 hn', bnd1_s, mxo, if_pos f2]
      rfl
    · rw [if_neg hb]
      rfl
theorem opn_inc {p n : Int32} {opr oop : Nat → Int32} (h0 : 0 ≤ n) (h1 : n < 90000) : opn p (n + 1) opr oop = opn p n opr oop + (if ix opr n = p then ix oop n else 0) := by
  unfold opn
  rw [tn_inc h0 h1]
  show isum _ _ + _ = _
  rw [of_tn h0]
theorem isum_inc2 {F : Int32 → Int32} {n : Int32} (h0 : 0 ≤ n) (h1 : n < 90000) : isum F (n + 1).toNatClampNeg = isum F n.toNatClampNeg + F n := by
  rw [tn_inc h0 h1]
  show isum _ _ + _ = _
  rw [of_tn h0]
theorem t_wv3 {S : Int32} {acts : Int32} {bks : Nat → Int32} {c0 : Nat → Int32} {gif : Int32} {gp : Int32} {hk : Nat} {icnt : Int32} {itm : Nat → Int32} {lan : Int32} {lbl : Nat → Int32} {lcn : Int32} {lco : Nat → Int32} {lla : Nat → Int32} {lpr : Nat → Int32} {lst : Nat → Int32} {n4 : Int32} {ns : Int32} {obd : Nat → Int32} {ocn : Int32} {ocu : Nat → Int32} {odu : Nat → Int32} {oha : Nat → Int32} {oli : Nat → Int32} {oop : Nat → Int32} {opr : Nat → Int32} {ost : Nat → Int32} {pbd : Nat → Int32} {pkd : Int64} {plc : Int32} {plot : Nat → Int32} {pmk : Nat → Int32} {pos : Int32} {ppc : Nat → Int32} {prods : Int32} {rest : Nat → Int32} {rom : Int32} {st : Nat → StT} {tod : Int32} {trm : Nat → Int32} {w : Nat → Int32} {x : Int32} (l0 : 0 ≤ lcn) (l1 : lcn ≤ 24) (h0 : 0 ≤ ocn) (h1 : ocn ≤ 40) (hO : QO ocn prods ocu opr oop odu oli w) (hF : ∀ q l : Int32, 0 ≤ q → q < ocn → 0 ≤ l → l < lcn → 1 ≤ ix oha (q * 24 + l) → SF q lpr lla lst opr odu oli l) : ∃ e, loop (fun z : Int32 × Int32 × (Nat → Int32) => f_L_isWave_L119 n4 lan pos prods lcn ocn acts ns hk st tod prods icnt itm bks trm lan pos rom gp plc pkd plot ppc pmk pbd lcn lpr lla lco lst lbl ocn gif ocu opr oop odu oli obd oha ost rest x prods.toNatClampNeg z.1 z.2.1 z.2.2) fu (S, 0, c0) = some e ∧ (∃ m c, e = .inr (m, c) ∧ m + isum (ix oop) ocn.toNatClampNeg = S ∧ ∀ p : Int32, 0 ≤ p → p < prods → ix c p + opn p ocn opr oop = ix c0 p) := by
  refine lp_one (f := fun z : Int32 × Int32 × (Nat → Int32) => f_L_isWave_L119 n4 lan pos prods lcn ocn acts ns hk st tod prods icnt itm bks trm lan pos rom gp plc pkd plot ppc pmk pbd lcn lpr lla lco lst lbl ocn gif ocu opr oop odu oli obd oha ost rest x prods.toNatClampNeg z.1 z.2.1 z.2.2) (fun z => 0 ≤ z.2.1 ∧ z.2.1 ≤ ocn ∧ z.1 + isum (ix oop) z.2.1.toNatClampNeg = S ∧ ∀ p : Int32, 0 ≤ p → p < prods → ix z.2.2 p + opn p z.2.1 opr oop = ix c0 p) (fun e => ∃ m c, e = .inr (m, c) ∧ m + isum (ix oop) ocn.toNatClampNeg = S ∧ ∀ p : Int32, 0 ≤ p → p < prods → ix c p + opn p ocn opr oop = ix c0 p) (fun z => msr z.2.1 ocn) ?_ fu (S, 0, c0) ⟨by dsimp only; decide, h0, ?_, ?_⟩ (msr_fu (by dsimp only; decide) (by clear hF hO; grind))
  · rintro ⟨n2, n5, cq⟩ ⟨g1, g2, g3, g4⟩
    dsimp only at g1 g2 g3 g4 ⊢
    unfold f_L_isWave_L119
    by_cases hn : ocn ≤ n5
    · have : n5 = ocn := by clear hF hO g4; grind
      subst this
      exact Or.inr ⟨_, by rw [if_pos hn], _, _, rfl, g3, g4⟩
    · left
      have hn' : n5 < ocn := Int32.not_le.mp hn
      have n90 : n5 < 90000 := by clear hF hO g4; grind
      obtain ⟨-, -, -, -, b0, b1, -⟩ := hO n5 g1 hn'
      obtain ⟨e, w1, w2⟩ := t_wv4 (acts := acts) (ns := ns) (hk := hk) (st := st) (tod := tod) (prods := prods) (icnt := icnt) (itm := itm) (bks := bks) (trm := trm) (lan := lan) (pos := pos) (rom := rom) (gp := gp) (plc := plc) (pkd := pkd) (plot := plot) (ppc := ppc) (pmk := pmk) (pbd := pbd) (lpr := lpr) (lla := lla) (lco := lco) (lst := lst) (lbl := lbl) (gif := gif) (ocu := ocu) (opr := opr) (oop := oop) (odu := odu) (oli := oli) (obd := obd) (oha := oha) (ost := ost) (rest := rest) (x := x) (n2 := n2 - ix oop n5) (n4 := n4) (cq := upd cq (ix opr n5).toNatClampNeg (cq (ix opr n5).toNatClampNeg - ix oop n5)) l0 l1 h1 g1 hn' (fun l l0 l1 => hF n5 l g1 hn' l0 l1)
      subst w2
      have hgd : (ix opr n5).toInt < (prods.toNatClampNeg : Int) := by
        have := tn_lt b0 b1
        rw [i_tn, i_tn] at this
        rw [i_tn]; omega
      refine ⟨(n2 - ix oop n5, n5 + 1, upd cq (ix opr n5).toNatClampNeg (cq (ix opr n5).toNatClampNeg - ix oop n5)), ?_, ⟨by dsimp only; clear hF hO g4; grind, by dsimp only; clear hF hO g4; grind, ?_, ?_⟩, msr_lt hn'⟩
      · rw [if_neg hn, a_or1 h1 g1 hn', bnd1_s, mxo, gdx b0 hgd, a_or2 h1 g1 hn', bnd1_s, mxo, gdx b0 hgd, bnd1_s, mxo, a_lots h1 l0 l1 g1 hn', bnd1_s, mxo, w1, bnd1_s]
        rfl
      · dsimp only
        rw [isum_inc2 g1 n90, ← g3]
        generalize isum (ix oop) n5.toNatClampNeg = Q
        clear hF hO g4
        grind
      · intro p p0 p1
        dsimp only
        have u : ix (upd cq (ix opr n5).toNatClampNeg (cq (ix opr n5).toNatClampNeg - ix oop n5)) p = if p = ix opr n5 then ix cq (ix opr n5) - ix oop n5 else ix cq p := upd_at b0 p0
        rw [u, opn_inc g1 n90, ← g4 p p0 p1]
        generalize opn p n5 opr oop = Q
        clear hF hO g3 g4
        by_cases hk : p = ix opr n5
        · rw [if_pos hk, if_pos hk.symm, ← hk]; grind
        · rw [if_neg hk, if_neg (fun z => hk z.symm)]; grind
  · dsimp only
    exact Int32.add_zero _
  · intro p p0 p1
    dsimp only
    exact Int32.add_zero _
theorem t_wv5 {acts : Int32} {bks : Nat → Int32} {cq : Nat → Int32} {gif : Int32} {gp : Int32} {hk : Nat} {icnt : Int32} {itm : Nat → Int32} {lan : Int32} {lbl : Nat → Int32} {lcn : Int32} {lco : Nat → Int32} {lla : Nat → Int32} {lpr : Nat → Int32} {lst : Nat → Int32} {n2 : Int32} {n4 : Int32} {ns : Int32} {obd : Nat → Int32} {ocn : Int32} {ocu : Nat → Int32} {odu : Nat → Int32} {oha : Nat → Int32} {oli : Nat → Int32} {oop : Nat → Int32} {opr : Nat → Int32} {ost : Nat → Int32} {pbd : Nat → Int32} {pkd : Int64} {plc : Int32} {plot : Nat → Int32} {pmk : Nat → Int32} {pos : Int32} {ppc : Nat → Int32} {prods : Int32} {rest : Nat → Int32} {rom : Int32} {st : Nat → StT} {tod : Int32} {trm : Nat → Int32} {x : Int32} (h0 : 0 ≤ prods) (h1 : prods ≤ 6) (hz : ∀ p : Int32, 0 ≤ p → p < prods → ix cq p = 0) : ∃ e, loop (fun z : Int32 => f_L_isWave_L276 n2 n4 lan pos prods lcn ocn acts ns hk st tod prods icnt itm bks trm lan pos rom gp plc pkd plot ppc pmk pbd lcn lpr lla lco lst lbl ocn gif ocu opr oop odu oli obd oha ost rest x prods.toNatClampNeg cq z) fu 0 = some e ∧ e = .inr () := by
  refine lp_one (f := fun z : Int32 => f_L_isWave_L276 n2 n4 lan pos prods lcn ocn acts ns hk st tod prods icnt itm bks trm lan pos rom gp plc pkd plot ppc pmk pbd lcn lpr lla lco lst lbl ocn gif ocu opr oop odu oli obd oha ost rest x prods.toNatClampNeg cq z) (fun z => 0 ≤ z ∧ z ≤ prods) (fun e => e = .inr ()) (fun z => msr z prods) ?_ fu 0 ⟨by decide, h0⟩ (msr_fu (by decide) (by grind))
  rintro p ⟨g1, g2⟩
  unfold f_L_isWave_L276
  by_cases hn : prods ≤ p
  · exact Or.inr ⟨_, by rw [if_pos hn], rfl⟩
  · left
    have hn' : p < prods := Int32.not_le.mp hn
    have e := hz p g1 hn'
    refine ⟨p + 1, ?_, ⟨by clear hz; grind, by clear hz; grind⟩, msr_lt hn'⟩
    rw [if_neg hn, gdx g1 (by have := tn_lt g1 hn'; rw [i_tn, i_tn] at this; rw [i_tn]; omega), if_pos e]
set_option maxHeartbeats 2000000 in
set_option maxRecDepth 8000 in
theorem t_wave {tod : Int32} {prods : Int32} {icnt : Int32} {itm : Nat → Int32} {bks : Nat → Int32} {trm : Nat → Int32} {lan : Int32} {pos : Int32} {rom : Int32} {gp : Int32} {plc : Int32} {pkd : Int64} {plot : Nat → Int32} {ppc : Nat → Int32} {pmk : Nat → Int32} {pbd : Nat → Int32} {lcn : Int32} {lpr : Nat → Int32} {lla : Nat → Int32} {lco : Nat → Int32} {lst : Nat → Int32} {lbl : Nat → Int32} {ocn : Int32} {gif : Int32} {ocu : Nat → Int32} {opr : Nat → Int32} {oop : Nat → Int32} {odu : Nat → Int32} {oli : Nat → Int32} {obd : Nat → Int32} {oha : Nat → Int32} {ost : Nat → Int32} {acts : Int32} {ns : Int32} {hk : Nat} {st : Nat → StT} {pt : Nat → Int32} {lo : Nat → Int32} {hi : Nat → Int32} {bo : Nat → Int64} {co : Nat → Int64} {ac : Nat → Int32} {la : Int32} {po : Int32} {gg : Int32} {pr : Int32} {lt : Int32} {od : Int32} {x : Int32} {rest : Nat → Int32} (hJ : JV (tod, prods, icnt, itm, bks, trm, lan, pos, rom, gp, plc, pkd, plot, ppc, pmk, pbd, lcn, lpr, lla, lco, lst, lbl, ocn, gif, ocu, opr, oop, odu, oli, obd, oha, ost) acts ns hk st pt lo hi bo co ac) (hd : DR la po gg pr lt od lan pos gp plc prods lcn ocn pmk lst oop oha) : Gs (f_L_isWave la po pr lt od acts ns hk st tod prods icnt itm bks trm lan pos rom gp plc pkd plot ppc pmk pbd lcn lpr lla lco lst lbl ocn gif ocu opr oop odu oli obd oha ost rest x) (fun o => o.1 = 1 ∧ JV (tod, prods, icnt, itm, o.2.2.2.2.2.1, trm, lan, pos, rom, gp, plc, o.2.2.2.2.2.2.1, o.2.2.2.2.2.2.2.1, o.2.2.2.2.2.2.2.2.1, o.2.2.2.2.2.2.2.2.2.1, pbd, lcn, lpr, lla, lco, lst, lbl, ocn, o.2.2.2.2.2.2.2.2.2.2.1, ocu, opr, o.2.2.2.2.2.2.2.2.2.2.2.1, odu, oli, obd, o.2.2.2.2.2.2.2.2.2.2.2.2.1, o.2.2.2.2.2.2.2.2.2.2.2.2.2.1) o.2.1 o.2.2.1 o.2.2.2.1 o.2.2.2.2.1 pt lo hi bo co ac ∧ QK plc o.2.2.2.2.2.2.1 (mkw plc o.2.2.2.2.2.2.2.2.2.1)) := by
  obtain ⟨f1, f2, f3, f4, f5, f6, f7, f8, f9, f10, f11, f12, f13, f14, f15, f16⟩ := hd
  have f1 := f1.symm
  have f2 := f2.symm
  have f3 := f3.symm
  have f4 := f4.symm
  have f5 := f5.symm
  have f6 := f6.symm
  subst f1 f2 f3 f4 f5 f6
  obtain ⟨w, near, ⟨hD, hB, hP, hK, hL, hLs, hO, hOs, hH, hG, hS, hI, hT, hA, hN⟩, hR, hPL⟩ := hJ.ex
  obtain ⟨d0, d1, d2, d3, d4, d5, d6, d7, d8, d9, d10, d11, d12, d13, d14, d15, d16, d17, d18, d19, d20, d21, d22, d23, d24, d25, d26⟩ := id hD
  clear hB hK hG hS hI hT hA hN hR hPL
  unfold f_L_isWave ga
  rw [if_pos ⟨Int32.not_lt.mpr d19, by have := i_le.mp f10; rw [i_tn]; rw [show (2 : Int32).toInt = 2 from rfl] at this; omega⟩]
  unfold f_L_isWave_A6
  refine gs_l (t_wv1 hD hP hL hLs hO hOs (Int32.le_trans f13 (by decide)) (fun o o0 o1 => (f16 o o0 o1).1)) ?_
  rintro e ⟨ra, xa, ca, rfl, hc⟩
  refine gs_r ?_
  dsimp only
  refine gs_l (t_wv2 d25 d26) ?_
  rintro m rfl
  refine gs_b1 a_bk.2.1 (gs_ok ?_)
  obtain ⟨b_r, b_acts, b_ns, b_hk, b_st, b_bks, b_pkd, b_plot, b_ppc, b_pmk, b_gif, b_oop, b_oha, b_ost, b_rest, hx, hJ2⟩ := iv_wave (c_rest := ra) hJ
  obtain ⟨y1, y2, y3, y4, y5⟩ := x_wave hD hP hLs hO hOs f14 hx
  refine gs_b15 hx ?_
  refine gs_b1 a_bk.2.1 (gs_ok (gs_t (by rw [y1]; exact upd_same) ?_))
  obtain ⟨w2, near2, ⟨hD2, hB2, hP2, hK2, hL2, hLs2, hO2, hOs2, hH2, hG2, hS2, hI2, hT2, hA2, hN2⟩, hR2, hPL2⟩ := hJ2.ex
  obtain ⟨rb, hbk⟩ := t_booked (la := lan) (po := pos) (pr := prods) (rest := b_rest) hD2 hP2 hL2 hA2 d15.symm rfl
  refine gs_b2 hbk (gs_e one_ne ?_)
  refine gs_l (t_wv3 (c0 := ca) (S := isum (ix oop) ocn.toNatClampNeg) d22 d23 d25 d26 hO2 (fun q l q0 q1 l0 l1 hh => ?_)) ?_
  · rcases y4 q l q0 q1 l0 (Int32.lt_of_lt_of_le l1 d23) hh with z | z
    · rw [(f16 q q0 q1).2 l l0 (Int32.lt_of_lt_of_le l1 d23)] at z; exact absurd z (by decide)
    · exact z
  rintro e ⟨mm, cc, rfl, m1, m2⟩
  refine gs_r ?_
  dsimp only
  refine gs_l (t_wv5 d19 d20 (fun p p0 p1 => ?_)) ?_
  · obtain ⟨ra1, ra2, z1⟩ := hc p p0 p1
    obtain ⟨ra3, z2⟩ := y5 p ra1
    rw [z2] at z1
    have z3 := m2 p p0 p1
    have z4 : opn p ocn opr b_oop = ix ca p := (Prod.mk.inj (Option.some.inj z1)).1
    rw [← z4] at z3
    clear z1 z2 z4
    generalize opn p ocn opr b_oop = Q at z3
    clear y2 y3 y4 y5 m1 m2 hc f14 f15 f16 hP hO hH hL hLs hOs hP2 hO2 hH2 hL2 hLs2 hOs2 hG2 hS2 hI2 hT2 hA2 hN2 hR2 hPL2 hB2 hK2
    grind
  rintro e rfl
  refine gs_r ?_
  try dsimp only
  refine gs_t ?_ (gs_i ⟨rfl, hJ2, y3⟩)
  rw [← y2] at m1
  generalize isum (ix b_oop) ocn.toNatClampNeg = Q at m1
  clear y1 y2 y3 y4 y5 m2 hc f14 f15 f16 hP hO hH hL hLs hOs hP2 hO2 hH2 hL2 hLs2 hOs2 hG2 hS2 hI2 hT2 hA2 hN2 hR2 hPL2 hB2 hK2
  grind
