/-! ===== what comes back ===== -/
theorem tb_facts {o q tod rom plc lcn ocn scr : Int32} {plot ppc pmk pbd lla lst oha ost l' p' k' h' w : Nat → Int32} (o0 : 0 ≤ o) (o1 : o < ocn) (oc : ocn ≤ 40) (c1 : lcn ≤ 24) (q0 : 1 ≤ q) (q1 : q ≤ 50) (hH : QH ocn lcn oha w) (st : ∀ m : Int32, 0 ≤ m → m < 24 → 0 ≤ ix ost (o * 24 + m) ∧ ix ost (o * 24 + m) ≤ 2000) (hq : q ≤ hsm oha o)
    (h : f_X7_takeBack o q tod rom plc plot ppc pmk pbd lcn lla lst ocn oha ost = some (scr, l', p', k', h')) : 0 ≤ scr ∧ scr ≤ q ∧ hsm h' o = hsm oha o - q := by
  have o40 : o < 40 := bk_lt o o1 oc
  unfold f_X7_takeBack at h
  obtain ⟨e, e1, h⟩ := ob1 h
  have key := lp_inv (g := fun z : Int32 × Int32 × Int32 × (Nat → Int32) × (Nat → Int32) × (Nat → Int32) × (Nat → Int32) => f_X7_takeBack_L8 o tod rom plc pbd lcn lla lst ocn ost z.1 z.2.1 z.2.2.1 z.2.2.2.1 z.2.2.2.2.1 z.2.2.2.2.2.1 z.2.2.2.2.2.2)
    (fun s => (0 ≤ s.2.2.1 ∧ s.2.2.1 ≤ 24 ∧ 0 ≤ s.2.1 ∧ s.2.1 ≤ q ∧ (0 < s.2.1 → s.2.2.1 + cnt s.2.2.2.2.2.2 o ≤ 24) ∧ s.2.1 ≤ hsm s.2.2.2.2.2.2 o) ∧ hsm s.2.2.2.2.2.2 o = hsm oha o - (q - s.2.1) ∧ (0 ≤ s.1 ∧ s.1 ≤ q - s.2.1) ∧ ∀ m : Int32, 0 ≤ m → m < 24 → 0 ≤ ix s.2.2.2.2.2.2 (o * 24 + m) ∧ ix s.2.2.2.2.2.2 (o * 24 + m) ≤ 50 ∧ (lcn ≤ m → ix s.2.2.2.2.2.2 (o * 24 + m) = 0))
    (fun d => ∀ z, (d = .inl z ∨ d = .inr z) → 0 ≤ z.1 ∧ z.1 ≤ q ∧ hsm z.2.2.2.2 o = hsm oha o - q) ?_ ?_ fu (0, q, 0, plot, ppc, pmk, oha) e ?_ e1
  · rcases e with z | z
    · have := key z (Or.inl rfl)
      have h2 : some z = some (scr, l', p', k', h') := h
      cases h2
      exact this
    · have := key z (Or.inr rfl)
      have h2 : some z = some (scr, l', p', k', h') := h
      cases h2
      exact this
  · rintro ⟨n3, lf, k, a, b, c, h⟩ t' ⟨⟨k0, k1, l0, l1, kc, ls⟩, he, ⟨s0, s1⟩, hh⟩ hs
    dsimp only at k0 k1 l0 l1 kc ls he s0 s1 hh hs
    unfold f_X7_takeBack_L8 at hs
    split at hs
    · cases hs
    rename_i hk
    split at hs
    · cases hs
    rename_i hl
    have hlf : 0 < lf := Int32.not_le.mp hl
    obtain ⟨L, t1, t2⟩ := n_latest2 (below := 2147483647) (oha := h) oc o0 o1 st
    obtain ⟨L0, L24, hL1⟩ : 0 ≤ L ∧ L < 24 ∧ 1 ≤ ix h (o * 24 + L) := by
      rcases t2 with ⟨z1, z2⟩ | ⟨z1, z2, z3, z4⟩
      · exfalso
        have : hsm h o = 0 := hsm_0 (fun m m0 m1 => bk_not (fun y => z2 m m0 m1 ⟨y, bk_big (st m m0 m1).2⟩) (hh m m0 m1).1)
        rw [this] at ls
        exact absurd (Int32.lt_of_lt_of_le hlf ls) (by decide)
      · exact ⟨z1, z2, z3.1⟩
    obtain ⟨x1, x2, x3⟩ := hh L L0 L24
    have Llcn : L < lcn := by
      by_cases z : lcn ≤ L
      · rw [x3 z] at hL1; exact absurd hL1 (by decide)
      · exact Int32.not_le.mp z
    rw [t1, bnd1_s, n_exL _ _ c1, if_pos ⟨L0, Llcn⟩, bnd1_s, if_neg one_ne, n_piecesOf o L ocn h oc o0 o1 L0 L24, bnd1_s, n_takeBack oc o0 o1 L0 L24, bnd1_s] at hs
    obtain ⟨t, ht⟩ : ∃ t : Int32, t = if ix h (o * 24 + L) < lf then ix h (o * 24 + L) else lf := ⟨_, rfl⟩
    rw [← ht] at hs
    obtain ⟨b1, b2, b3, b4, b5, -, -, -, -, b6, b7⟩ := bk_t hL1 x2 hlf l1 q1 ht
    have cp := cnt_pos (h := h) o0 o40 L0 L24 hL1
    have cr := (cnt_rng (h := h) (o := o)).2
    have cu := cnt_upd (v := ix h (o * 24 + L) - t) o0 o40 L0 L24 hL1
    have hu := hsm_upd (h := h) (v := ix h (o * 24 + L) - t) o0 o40 L0 L24
    have hr := (hsm_rng (h := h) (o := o) (fun m m0 m1 => ⟨(hh m m0 m1).1, (hh m m0 m1).2.1⟩)).2
    have hY : hsm (upd h (o * 24 + L).toNatClampNeg (ix h (o * 24 + L) - t)) o = hsm h o - t := by rw [hu]; clear hh hs; grind
    have hnew : ∀ m : Int32, 0 ≤ m → m < 24 → 0 ≤ ix (upd h (o * 24 + L).toNatClampNeg (ix h (o * 24 + L) - t)) (o * 24 + m) ∧ ix (upd h (o * 24 + L).toNatClampNeg (ix h (o * 24 + L) - t)) (o * 24 + m) ≤ 50 ∧ (lcn ≤ m → ix (upd h (o * 24 + L).toNatClampNeg (ix h (o * 24 + L) - t)) (o * 24 + m) = 0) := fun m m0 m1 => by
      rw [row_upd o0 o40 o0 o40 m0 m1 L0 L24]
      by_cases z : o = o ∧ m = L
      · rw [if_pos z]
        refine ⟨b6, Int32.le_trans b7 x2, fun y => ?_⟩
        rw [z.2] at y
        exact absurd Llcn (Int32.not_lt.mpr y)
      · rw [if_neg z]; exact hh m m0 m1
    have base := bk_base k0 (Int32.not_le.mp hk) hlf l1 q1 b1 b2 b4 (kc hlf) cp cr cu hY ls hr
    have hE : hsm (upd h (o * 24 + L).toNatClampNeg (ix h (o * 24 + L) - t)) o = hsm oha o - (q - (lf - t)) := by rw [hY, he]; clear hh hs hnew base cu hu hY; grind
    obtain ⟨rw', -, hs⟩ := ob1 hs
    split at hs
    · obtain ⟨r16, o18, o19, o20, -, hs⟩ := ob4 hs
      obtain ⟨o23, o24, o25, -, hs⟩ := ob3 hs
      unfold f_X7_takeBack_L8_J158 at hs
      cases hs
      refine ⟨base, hE, ⟨s0, ?_⟩, hnew⟩
      dsimp only
      clear hh hnew base cu hu hY hE kc
      grind
    · unfold f_X7_takeBack_L8_J158 at hs
      cases hs
      refine ⟨base, hE, ?_, hnew⟩
      dsimp only
      clear hh hnew base cu hu hY hE kc
      constructor <;> grind
  · rintro ⟨n3, lf, k, a, b, c, h⟩ d ⟨⟨k0, k1, l0, l1, kc, ls⟩, he, ⟨s0, s1⟩, hh⟩ hs
    dsimp only at k0 k1 l0 l1 kc ls he s0 s1 hh hs
    by_cases hl : lf ≤ 0
    · have l00 : lf = 0 := by clear hh hs; grind
      subst l00
      have fin : ∀ (x : Int32 × (Nat → Int32) × (Nat → Int32) × (Nat → Int32) × (Nat → Int32)), x = (n3, a, b, c, h) → 0 ≤ x.1 ∧ x.1 ≤ q ∧ hsm x.2.2.2.2 o = hsm oha o - q := by
        rintro x rfl
        rw [Int32.sub_zero] at he s1
        exact ⟨s0, s1, he⟩
      unfold f_X7_takeBack_L8 at hs
      split at hs
      · cases hs
        rintro z (y | y)
        · cases y
        · cases y; exact fin _ rfl
      · cases hs
        rintro z (y | y)
        · cases y
        · cases y; exact fin _ rfl
    · exfalso
      have hlf : 0 < lf := Int32.not_le.mp hl
      obtain ⟨L, t1, t2⟩ := n_latest2 (below := 2147483647) (oha := h) oc o0 o1 st
      obtain ⟨L0, L24, hL1⟩ : 0 ≤ L ∧ L < 24 ∧ 1 ≤ ix h (o * 24 + L) := by
        rcases t2 with ⟨z1, z2⟩ | ⟨z1, z2, z3, z4⟩
        · exfalso
          have : hsm h o = 0 := hsm_0 (fun m m0 m1 => bk_not (fun y => z2 m m0 m1 ⟨y, bk_big (st m m0 m1).2⟩) (hh m m0 m1).1)
          rw [this] at ls
          exact absurd (Int32.lt_of_lt_of_le hlf ls) (by decide)
        · exact ⟨z1, z2, z3.1⟩
      obtain ⟨x1, x2, x3⟩ := hh L L0 L24
      have Llcn : L < lcn := by
        by_cases z : lcn ≤ L
        · rw [x3 z] at hL1; exact absurd hL1 (by decide)
        · exact Int32.not_le.mp z
      have cp := cnt_pos (h := h) o0 o40 L0 L24 hL1
      have cr := (cnt_rng (h := h) (o := o)).2
      obtain ⟨k24, k24'⟩ := bk_k k0 k1 (kc hlf) cp cr
      unfold f_X7_takeBack_L8 at hs
      rw [if_neg k24', if_neg hl, t1, bnd1_s, n_exL _ _ c1, if_pos ⟨L0, Llcn⟩, bnd1_s, if_neg one_ne, n_piecesOf o L ocn h oc o0 o1 L0 L24, bnd1_s, n_takeBack oc o0 o1 L0 L24, bnd1_s] at hs
      obtain ⟨rw', -, hs⟩ := ob1 hs
      split at hs
      · obtain ⟨r16, o18, o19, o20, -, hs⟩ := ob4 hs
        obtain ⟨o23, o24, o25, -, hs⟩ := ob3 hs
        unfold f_X7_takeBack_L8_J158 at hs
        cases hs
      · unfold f_X7_takeBack_L8_J158 at hs
        cases hs
  · refine ⟨⟨by dsimp only; decide, by dsimp only; decide, Int32.le_trans (by decide) q0, Int32.le_refl _, fun _ => ?_, hq⟩, ?_, ⟨by dsimp only; decide, ?_⟩, fun m m0 m1 => ?_⟩
    · dsimp only
      have cr := (cnt_rng (h := oha) (o := o)).2
      clear hH st
      grind
    · dsimp only; clear hH st; grind
    · dsimp only; clear hH st; grind
    · obtain ⟨-, y1, y2, y3⟩ := hH o m o0 o1 m0 m1
      exact ⟨y1, y2, y3⟩
theorem x_giveBack {w : Nat → Int32} {v1 : Int32} {v2 : Int32} {acts : Int32} {ns : Int32} {hk : Nat} {st : Nat → StT} {tod : Int32} {prods : Int32} {icnt : Int32} {itm : Nat → Int32} {bks : Nat → Int32} {trm : Nat → Int32} {lan : Int32} {pos : Int32} {rom : Int32} {gp : Int32} {plc : Int32} {pkd : Int64} {plot : Nat → Int32} {ppc : Nat → Int32} {pmk : Nat → Int32} {pbd : Nat → Int32} {lcn : Int32} {lpr : Nat → Int32} {lla : Nat → Int32} {lco : Nat → Int32} {lst : Nat → Int32} {lbl : Nat → Int32} {ocn : Int32} {gif : Int32} {ocu : Nat → Int32} {opr : Nat → Int32} {oop : Nat → Int32} {odu : Nat → Int32} {oli : Nat → Int32} {obd : Nat → Int32} {oha : Nat → Int32} {ost : Nat → Int32} {r : Except String Int32} {acts' : Int32} {ns' : Int32} {hk' : Nat} {st' : Nat → StT} {bks' : Nat → Int32} {plot' : Nat → Int32} {ppc' : Nat → Int32} {pmk' : Nat → Int32} {oha' : Nat → Int32} (a1 : 0 ≤ v1) (a2 : v1 < ocn) (oc : ocn ≤ 40) (c1 : lcn ≤ 24) (b1 : 1 ≤ v2) (b2 : v2 ≤ 50) (hH : QH ocn lcn oha w) (hst : ∀ m : Int32, 0 ≤ m → m < 24 → 0 ≤ ix ost (v1 * 24 + m) ∧ ix ost (v1 * 24 + m) ≤ 2000) (h : f_X7_giveBack v1 v2 acts ns hk st tod prods icnt itm bks trm lan pos rom gp plc pkd plot ppc pmk pbd lcn lpr lla lco lst lbl ocn gif ocu opr oop odu oli obd oha ost = some (r, acts', ns', hk', st', bks', plot', ppc', pmk', oha')) : (r = .error "java/lang/IllegalStateException" ∧ acts' = acts ∧ ns' = ns ∧ hk' = hk ∧ st' = st ∧ bks' = bks ∧ plot' = plot ∧ ppc' = ppc ∧ pmk' = pmk ∧ oha' = oha) ∨ ∃ scr, r = .ok scr ∧ v2 ≤ hsm oha v1 ∧ 0 ≤ scr ∧ scr ≤ v2 ∧ hsm oha' v1 = hsm oha v1 - v2 := by
  unfold f_X7_giveBack at h
  obtain ⟨r11, e11, h⟩ := ob1 h
  rw [n_needOrder _ _ oc] at e11
  have e11 := ok_1 ⟨a1, a2⟩ e11
  subst e11
  have h := mx_o h
  obtain ⟨r12, e12, h⟩ := ob1 h
  have e12 := nr_1 b1 b2 e12
  subst e12
  have h := mx_o h
  try dsimp only at h
  rw [n_piecesAt oc a1 a2, bnd1_s] at h
  have hx : isum (fun l => ix oha (v1 * 24 + l)) (24 : Int32).toNatClampNeg = hsm oha v1 := rfl
  rw [hx] at h
  by_cases c : hsm oha v1 < v2
  · rw [if_pos c] at h
    unfold f_X7_giveBack_J32 at h
    rw [n_needState, if_pos rfl, bnd1_s] at h
    have h := mx_e h
    cases h
    exact Or.inl ⟨rfl, rfl, rfl, rfl, rfl, rfl, rfl, rfl, rfl, rfl⟩
  · rw [if_neg c] at h
    unfold f_X7_giveBack_J32 at h
    obtain ⟨r15, e15, h⟩ := ob1 h
    have e15 := ns_1 one_ne e15
    subst e15
    have h := mx_o h
    try dsimp only at h
    obtain ⟨r13, -, h⟩ := ob1 h
    obtain ⟨r15, -, h⟩ := ob1 h
    split at h
    · unfold f_X7_giveBack_J59 at h
      rw [n_needState, if_pos rfl, bnd1_s] at h
      have h := mx_e h
      cases h
      exact Or.inl ⟨rfl, rfl, rfl, rfl, rfl, rfl, rfl, rfl, rfl, rfl⟩
    · unfold f_X7_giveBack_J59 at h
      rw [n_needState, if_neg one_ne, bnd1_s] at h
      have h := mx_o h
      obtain ⟨q1, q2, q3, q4, -, h⟩ := ob4 h
      obtain ⟨s1, s2, s3, s4, s5, e5, h⟩ := ob5 h
      obtain ⟨_, h⟩ := ob_d h
      obtain ⟨_, h⟩ := ob_d h
      obtain ⟨_, h⟩ := ob_d h
      obtain ⟨_, h⟩ := ob_d h
      cases h
      have hq := Int32.not_lt.mp c
      obtain ⟨y1, y2, y3⟩ := tb_facts a1 a2 oc c1 b1 b2 hH hst hq e5
      exact Or.inr ⟨_, rfl, hq, y1, y2, y3⟩
theorem rem_slot {z : StT} {acts ns undos eldest a' n' : Int32} {hk h' : Nat} {st s' : Nat → StT} {kept : Nat → Int32} (hU : RU acts ns hk st undos eldest kept) (hm : f_X7_remember acts ns hk st z.tod z.prods z.icnt z.itm z.bks z.trm z.lan z.pos z.rom z.gp z.plc z.pkd z.plot z.ppc z.pmk z.pbd z.lcn z.lpr z.lla z.lco z.lst z.lbl z.ocn z.gif z.ocu z.opr z.oop z.odu z.oli z.obd z.oha z.ost = some (a', n', h', s')) : 1 ≤ a' ∧ 0 ≤ n' ∧ n' < 8 ∧ (r8 (n' + 7 - 0)).toNatClampNeg < h' ∧ SE z (s' (r8 (n' + 7 - 0)).toNatClampNeg) := by
  obtain ⟨-, u1, u2, n1, n2, -, -, hk1, -⟩ := hU
  obtain ⟨v, v1, v2⟩ := copyT_ok (remOld hk st ns.toNatClampNeg) z
  have e : f_X7_remember acts ns hk st z.tod z.prods z.icnt z.itm z.bks z.trm z.lan z.pos z.rom z.gp z.plc z.pkd z.plot z.ppc z.pmk z.pbd z.lcn z.lpr z.lla z.lco z.lst z.lbl z.ocn z.gif z.ocu z.opr z.oop z.odu z.oli z.obd z.oha z.ost = some ((if 8 < acts + 1 then (8 : Int32) else acts + 1), r8 (ns + 1), (if ns.toNatClampNeg < hk then hk else hk + 1), (fun i => if i = ns.toNatClampNeg then v else st i)) := by
    unfold f_X7_remember gn
    rw [gd_8 n1 n2, if_pos hk1, v1]
    rfl
  rw [e] at hm
  cases hm
  have rr := r8_rng (a := ns + 1) (by clear e v1 v2; grind) (by clear e v1 v2; grind)
  refine ⟨by clear e v1 v2; split <;> grind, rr.1, rr.2, ?_, ?_⟩
  · rw [ar4 n1 n2]; split <;> omega
  · rw [ar4 n1 n2]
    dsimp only
    rw [if_pos rfl]
    exact v2
set_option maxRecDepth 8000 in
theorem x_undo {z : StT} {w : Nat → Int32} {acts : Int32} {ns : Int32} {hk : Nat} {st : Nat → StT} {tod : Int32} {prods : Int32} {icnt : Int32} {itm : Nat → Int32} {bks : Nat → Int32} {trm : Nat → Int32} {lan : Int32} {pos : Int32} {rom : Int32} {gp : Int32} {plc : Int32} {pkd : Int64} {plot : Nat → Int32} {ppc : Nat → Int32} {pmk : Nat → Int32} {pbd : Nat → Int32} {lcn : Int32} {lpr : Nat → Int32} {lla : Nat → Int32} {lco : Nat → Int32} {lst : Nat → Int32} {lbl : Nat → Int32} {ocn : Int32} {gif : Int32} {ocu : Nat → Int32} {opr : Nat → Int32} {oop : Nat → Int32} {odu : Nat → Int32} {oli : Nat → Int32} {obd : Nat → Int32} {oha : Nat → Int32} {ost : Nat → Int32} {r : Except String Int32} {acts' : Int32} {ns' : Int32} {tod' : Int32} {prods' : Int32} {icnt' : Int32} {itm' : Nat → Int32} {bks' : Nat → Int32} {trm' : Nat → Int32} {lan' : Int32} {pos' : Int32} {rom' : Int32} {gp' : Int32} {plc' : Int32} {pkd' : Int64} {plot' : Nat → Int32} {ppc' : Nat → Int32} {pmk' : Nat → Int32} {pbd' : Nat → Int32} {lcn' : Int32} {lpr' : Nat → Int32} {lla' : Nat → Int32} {lco' : Nat → Int32} {lst' : Nat → Int32} {lbl' : Nat → Int32} {ocn' : Int32} {gif' : Int32} {ocu' : Nat → Int32} {opr' : Nat → Int32} {oop' : Nat → Int32} {odu' : Nat → Int32} {oli' : Nat → Int32} {obd' : Nat → Int32} {oha' : Nat → Int32} {ost' : Nat → Int32} (hz : RS z w) (hs : SE z (st (r8 (ns + 7 - 0)).toNatClampNeg)) (h1 : 1 ≤ acts) (n0 : 0 ≤ ns) (n1 : ns < 8) (hk1 : (r8 (ns + 7 - 0)).toNatClampNeg < hk) (h : f_X7_undo acts ns hk st tod prods icnt itm bks trm lan pos rom gp plc pkd plot ppc pmk pbd lcn lpr lla lco lst lbl ocn gif ocu opr oop odu oli obd oha ost = some (r, acts', ns', tod', prods', icnt', itm', bks', trm', lan', pos', rom', gp', plc', pkd', plot', ppc', pmk', pbd', lcn', lpr', lla', lco', lst', lbl', ocn', gif', ocu', opr', oop', odu', oli', obd', oha', ost')) : ∃ q, r = .ok q ∧ 0 ≤ q ∧ RS (tod', prods', icnt', itm', bks', trm', lan', pos', rom', gp', plc', pkd', plot', ppc', pmk', pbd', lcn', lpr', lla', lco', lst', lbl', ocn', gif', ocu', opr', oop', odu', oli', obd', oha', ost') w := by
  unfold f_X7_undo at h
  rw [if_neg (by clear hz hs hk1 h; grind)] at h
  unfold f_X7_undo_J12 at h
  obtain ⟨r15, e15, h⟩ := ob1 h
  have e15 := ns_1 one_ne e15
  subst e15
  have h := mx_o h
  try dsimp only at h
  obtain ⟨_, h⟩ := ob_d h
  have j1 : ns + 8 - 1 - (ns + 8 - 1) / 8 * 8 = r8 (ns + 7 - 0) := by
    rw [show ns + 7 - 0 = ns + 8 - 1 by clear hz hs hk1 h; grind]; rfl
  rw [j1, if_pos hk1] at h
  obtain ⟨v2, s1, s2⟩ := copyT_ok (tod, prods, icnt, itm, bks, trm, lan, pos, rom, gp, plc, pkd, plot, ppc, pmk, pbd, lcn, lpr, lla, lco, lst, lbl, ocn, gif, ocu, opr, oop, odu, oli, obd, oha, ost) (st (r8 (ns + 7 - 0)).toNatClampNeg)
  rw [s1, bnd1_s] at h
  have hw : RS v2 w := RS_se s2 (RS_se hs hz)
  cases h
  exact ⟨_, rfl, by clear hz hs hk1 hw s1 s2; grind, hw⟩
