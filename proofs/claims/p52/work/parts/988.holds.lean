/-! ===== the law holds ===== -/
set_option maxHeartbeats 4000000 in
set_option maxRecDepth 16000 in
theorem t_holds {tod : Int32} {prods : Int32} {icnt : Int32} {itm : Nat → Int32} {bks : Nat → Int32} {trm : Nat → Int32} {lan : Int32} {pos : Int32} {rom : Int32} {gp : Int32} {plc : Int32} {pkd : Int64} {plot : Nat → Int32} {ppc : Nat → Int32} {pmk : Nat → Int32} {pbd : Nat → Int32} {lcn : Int32} {lpr : Nat → Int32} {lla : Nat → Int32} {lco : Nat → Int32} {lst : Nat → Int32} {lbl : Nat → Int32} {ocn : Int32} {gif : Int32} {ocu : Nat → Int32} {opr : Nat → Int32} {oop : Nat → Int32} {odu : Nat → Int32} {oli : Nat → Int32} {obd : Nat → Int32} {oha : Nat → Int32} {ost : Nat → Int32} {acts : Int32} {ns : Int32} {hk : Nat} {st : Nat → StT} {pt : Nat → Int32} {lo : Nat → Int32} {hi : Nat → Int32} {bo : Nat → Int64} {co : Nat → Int64} {ac : Nat → Int32} {la : Int32} {po : Int32} {gg : Int32} {pr : Int32} {lt : Int32} {od : Int32} {x : Int32} {dp : Int32} {sh : Int32} {wd : Int32} {pl : Nat → Int32} {nx : Nat → Int32} {rest : Nat → Int32} {packed : Nat → Int32} (l0 : lt = 0) (q0 : od = 0) (hJ : JV (tod, prods, icnt, itm, bks, trm, lan, pos, rom, gp, plc, pkd, plot, ppc, pmk, pbd, lcn, lpr, lla, lco, lst, lbl, ocn, gif, ocu, opr, oop, odu, oli, obd, oha, ost) acts ns hk st pt lo hi bo co ac) : Gs (f_L_holds la po gg pr lt od acts ns hk st tod prods icnt itm bks trm lan pos rom gp plc pkd plot ppc pmk pbd lcn lpr lla lco lst lbl ocn gif ocu opr oop odu oli obd oha ost pt lo hi bo co ac dp sh wd pl nx rest packed x) (fun o => o.1 = 1) := by
  unfold f_L_holds
  obtain ⟨⟨a_r, a_la, a_po, a_gg, a_pr, a_lt, a_od, a_acts, a_ns, a_hk, a_st, a_tod, a_prods, a_bks, a_lan, a_pos, a_rom, a_gp, a_plc, a_pkd, a_plot, a_ppc, a_pmk, a_pbd, a_lcn, a_lpr, a_lla, a_lco, a_lst, a_lbl, a_ocn, a_gif, a_ocu, a_opr, a_oop, a_odu, a_oli, a_obd, a_oha, a_ost, a_x⟩, e1, r1, hJ1, hd⟩ := t_drawn (x := x) (la := la) (po := po) (gg := gg) (pr := pr) l0 q0 hJ
  dsimp only at r1 hJ1 hd
  subst r1
  refine gs_b41 e1 (gs_e one_ne ?_)
  obtain ⟨f1, f2, f3, f4, f5, f6, f7, f8, f9, f10, f11, f12, f13, f14, f15, f16⟩ := id hd
  obtain ⟨wa, na, ⟨D1, B1, P1, K1, L1, Ls1, O1, Os1, H1, G1, S1, I1, T1, A1, N1⟩, R1, PL1⟩ := hJ1.ex
  obtain ⟨d0, d1, d2, d3, d4, d5, d6, d7, d8, d9, d10, d11, d12, d13, d14, d15, d16, d17, d18, d19, d20, d21, d22, d23, d24, d25, d26⟩ := id D1
  have hc : a_la * a_po = a_plc := by rw [f1, f2, d15]
  have o1 : 1 ≤ a_ocn := Int32.le_trans (by decide) f12
  obtain ⟨rb, hbk⟩ := t_booked (la := a_la) (po := a_po) (pr := a_pr) (rest := rest) D1 P1 L1 A1 hc f4
  refine gs_b2 hbk (gs_e one_ne ?_)
  clear B1 P1 K1 L1 Ls1 O1 Os1 H1 G1 S1 I1 T1 A1 N1 R1 PL1 e1 hbk D1
  obtain ⟨⟨b_r, b_acts, b_ns, b_hk, b_st, b_bks, b_pkd, b_plot, b_ppc, b_pmk, b_gif, b_oop, b_oha, b_ost, b_rest, b_x⟩, e2, r2, hJ2, hk⟩ := t_wave (x := a_x) (rest := rb) hJ1 hd
  dsimp only at r2 hJ2 hk
  subst r2
  refine gs_b16 e2 (gs_e one_ne ?_)
  clear e2 hd
  obtain ⟨⟨c_r, c_dp, c_sh, c_wd, c_pl, c_nx⟩, e3, r3⟩ := t_least (dp := dp) (sh := sh) (wd := wd) (pl := pl) (nx := nx) hJ2 f1 f2 f3 hk
  dsimp only at r3
  subst r3
  refine gs_b6 e3 (gs_e one_ne ?_)
  clear e3
  obtain ⟨wb, nb, ⟨D2, B2, P2, K2, L2, Ls2, O2, Os2, H2, G2, S2, I2, T2, A2, N2⟩, R2, PL2⟩ := hJ2.ex
  refine gs_b1 (t_isKnown D2 O2 H2 f5 f6) (gs_e one_ne ?_)
  clear B2 P2 K2 L2 Ls2 O2 Os2 H2 G2 S2 I2 T2 A2 N2 R2 PL2 D2
  obtain ⟨⟨g_r, g_acts, g_ns, g_hk, g_st, g_tod, g_prods, g_icnt, g_itm, g_bks, g_trm, g_lan, g_pos, g_rom, g_gp, g_plc, g_pkd, g_plot, g_ppc, g_pmk, g_pbd, g_lcn, g_lpr, g_lla, g_lco, g_lst, g_lbl, g_ocn, g_gif, g_ocu, g_opr, g_oop, g_odu, g_oli, g_obd, g_oha, g_ost, g_rest, g_x⟩, e4, r4, hJ3⟩ := t_returned (x := b_x) (rest := b_rest) hJ2 hc f4 f5 f6 o1 f15
  dsimp only at r4 hJ3
  subst r4
  refine gs_b39 e4 (gs_e one_ne ?_)
  clear e4 hJ2 hJ1
  obtain ⟨⟨h_r, h_acts, h_ns, h_hk, h_st, h_icnt, h_itm, h_packed, h_x⟩, e5, r5, hJ4⟩ := t_boxed (packed := packed) (x := g_x) hJ3
  dsimp only at r5 hJ4
  subst r5
  refine gs_b9 e5 (gs_e one_ne ?_)
  clear e5 hJ3
  obtain ⟨⟨k_r, k_acts, k_ns, k_hk, k_st, k_trm, k_pt, k_lo, k_hi, k_bo, k_co, k_ac, k_x⟩, e6, r6, hJ5⟩ := t_planned (x := h_x) hJ4
  dsimp only at r6 hJ5
  subst r6
  refine gs_b13 e6 (gs_e one_ne ?_)
  clear e6 hJ4
  obtain ⟨wc_, nc, ⟨D3, B3, P3, K3, L3, Ls3, O3, Os3, H3, G3, S3, I3, T3, A3, N3⟩, R3, PL3⟩ := hJ5.ex
  obtain ⟨z1, z2, z3, z4, z5, z6, z7, e7, -⟩ := p_errors (pkd := g_pkd) (pbd := g_pbd) (gif := g_gif) (oha := g_oha) (ost := g_ost) (crest := g_rest) D3 P3 L3 Ls3 O3 Os3 T3 A3 PL3
  exact gs_b16 e7 (gs_t rfl (gs_i rfl))
set_option maxHeartbeats 4000000 in
set_option maxRecDepth 16000 in
theorem lgoes : LGoes := by
  obtain ⟨z0, e, hR⟩ := lw_start
  unfold lw_z0 at e
  obtain ⟨t1, t2, t3, t4, t5, t6, t7, t8, t9, t10, t11, h7, e⟩ := ob11 e
  obtain ⟨w, near, h8, e⟩ := ob2 e
  cases e
  rw [R_mk] at hR
  refine ⟨t1, t2, t3, t4, t5, t6, t7, t8, t9, t10, t11, h7, fun x9 => ?_⟩
  have hJ : JV (0, 0, 0, (fun _ => 0), (fun _ => 0), t1, t2, t3, t4, t5, t6, t7, t8, t9, t10, t11, 0, (fun _ => 0), (fun _ => 0), (fun _ => 0), (fun _ => 0), (fun _ => 0), 0, 0, (fun _ => 0), (fun _ => 0), (fun _ => 0), (fun _ => 0), (fun _ => 0), (fun _ => 0), (fun _ => 0), (fun _ => 0)) 0 0 0 (fun _ => stZ) (fun _ => 0) (fun _ => 0) (fun _ => 0) (fun _ => 0) (fun _ => 0) (fun _ => 0) := ⟨_, _, _, _, _, hR⟩
  obtain ⟨⟨r, q0, q1, q2, q3, q4, q5, q6, q7, q8, q9, q10, q11, q12, q13, q14, q15, q16, q17, q18, q19, q20, q21, q22, q23, q24, q25, q26, q27, q28, q29, q30, q31, q32, q33, q34, q35, q36, q37, q38, q39, q40, q41, q42, q43, q44, q45, q46, q47, q48, q49, q50, q51, q52, q53, q54, q55⟩, e9, r9⟩ := t_holds (la := 0) (po := 0) (gg := 0) (pr := 0) (lt := 0) (od := 0) (x := x9) (dp := 0) (sh := 0) (wd := 0) (pl := fun _ => 0) (nx := fun _ => 0) (rest := fun _ => 0) (packed := fun _ => 0) rfl rfl hJ
  dsimp only at r9
  subst r9
  exact ⟨q0, q1, q2, q3, q4, q5, q6, q7, q8, q9, q10, q11, q12, q13, q14, q15, q16, q17, q18, q19, q20, q21, q22, q23, q24, q25, q26, q27, q28, q29, q30, q31, q32, q33, q34, q35, q36, q37, q38, q39, q40, q41, q42, q43, q44, q45, q46, q47, q48, q49, q50, q51, q52, q53, q54, q55, e9⟩
