section SV
variable {tod prods lan pos rom gp plc lcn ocn gif p : Int32} {pkd : Int64} {plot ppc pmk pbd lpr lla lco lst lbl ocu opr oop odu oli obd oha ost rest w : Nat → Int32}
theorem wd_rng (hO : QO ocn prods ocu opr oop odu oli w) {o : Int32} (o0 : 0 ≤ o) (o1 : o < ocn) : 0 ≤ ix odu o + ix oli o ∧ ix odu o + ix oli o ≤ 3000 := by
  obtain ⟨-, -, -, -, -, -, -, -, -, -, u1, u2, -, u3, u4⟩ := hO o o0 o1
  clear hO
  grind
/-- the seven answers of isProved are those of a house whose waves give as much as any -/
theorem t_proved (hD : QD tod prods lan pos rom gp plc lcn ocn w) (hP : QP plc rom lcn plot ppc pmk w) (hL : QL lcn prods lpr lla lco lst w) (hLs : QLs lcn lla lbl) (hO : QO ocn prods ocu opr oop odu oli w) (hOs : QLs ocn odu obd) (h0 : 0 ≤ p) (h1 : p < prods) {od : Int32} (hod : od = ocn) (hoc : ocn ≤ 9) (hop : ∀ o : Int32, 0 ≤ o → o < ocn → 1 ≤ ix oop o) (x : Int32) :
    ∃ rest' x', f_L_isProved p od prods plc pkd plot ppc pmk pbd lcn lpr lla lst lbl ocn gif ocu opr oop odu oli obd oha ost rest x = some (1, pkd, plot, ppc, pmk, gif, oop, oha, ost, rest', x') := by
  subst hod
  have hD0 := hD
  obtain ⟨d0, d1, d2, d3, d4, d5, d6, d7, d8, d9, d10, d11, d12, d13, d14, d15, d16, d17, d18, d19, d20, d21, d22, d23, d24, d25, d26⟩ := hD
  have p0 : 0 ≤ plc := by clear hO hL hP hop hLs hOs; grind
  have z0 : (0 : Int32).toInt = 0 := rfl
  have hpn : ∀ l : Int32, 0 ≤ l → l < lcn → 0 ≤ (pof plc plot ppc l).toInt := fun l l0 l1 => (pof_rng p0 d17 d11 d10 hP).1
  have hon : ∀ o : Int32, 0 ≤ o → o < od → 0 ≤ (ix oop o).toInt := fun o o0 o1 => by
    have := i_le.mp (hop o o0 o1)
    rw [show (1 : Int32).toInt = 1 from rfl] at this
    omega
  obtain ⟨m, r0, u1, u2, u3, u4⟩ := a_unf (p := p) (pbd := pbd) (pkd := pkd) (gif := gif) (oha := oha) (ost := ost) (rest := rest) hD0 hP hL hLs hO hOs
  -- the most of the orders' differences
  have oci := i_le.mp hoc
  rw [show (9 : Int32).toInt = 9 from rfl] at oci
  obtain ⟨⟨m2, r1⟩, s1, s2⟩ := lp_one (f := fun z : Int32 × Int32 × (Nat → Int32) => f_L_isProved_L14 p m od prods plc pkd plot ppc pmk pbd lcn lpr lla lst lbl od gif ocu opr oop odu oli obd oha ost x z.1 z.2.1 z.2.2)
    (fun z => 0 ≤ z.2.1 ∧ z.2.1 ≤ od ∧ 0 ≤ z.1.toInt ∧ z.1.toInt ≤ m.toInt ∧ ∀ o : Int32, 0 ≤ o → o < z.2.1 → ix opr o = p → dfp p plc lcn od plot ppc lpr lla lst opr oop odu oli (WD odu oli o) ≤ z.1.toInt) (fun e => e.1 = m) (fun z => msr z.2.1 od) (by
    rintro ⟨mo, n, r⟩ ⟨g1, g2, g3, g4, g5⟩
    dsimp only at g1 g2 g3 g4 g5 ⊢
    unfold f_L_isProved_L14 f_L_isProved_L14_J60
    by_cases hn : od ≤ n
    · right
      have en : n = od := by clear hO hL hP hop hLs hOs hpn hon u3 u4 g5; grind
      subst en
      rw [if_pos hn]
      refine ⟨_, rfl, ?_⟩
      apply Int32.toInt_inj.mp
      show mo.toInt = m.toInt
      rcases u4 with u4 | ⟨o, o0, o1, o2, o3⟩
      · omega
      · have := g5 o o0 o1 o2
        omega
    · left
      have hn' : n < od := Int32.not_le.mp hn
      have n1 : 0 ≤ n + 1 ∧ n + 1 ≤ od := by clear hO hL hP hop hLs hOs hpn hon u3 u4 g5; grind
      have nx : ∀ q : Int32, q < n + 1 → q < n ∨ q = n := by intro q; clear hO hL hP hop hLs hOs hpn hon u3 u4 g5; grind
      rw [if_neg hn, a_or1 d26 g1 hn']
      simp only [bnd1, Option.bind_some, mx]
      by_cases hp : ix opr n = p
      · rw [if_pos hp, a_or5 d26 g1 hn']
        simp only [Option.bind_some, mx]
        obtain ⟨w0, w1⟩ := wd_rng hO g1 hn'
        obtain ⟨e, r', e1, e2⟩ := a_dif (p := p) (lpr := lpr) (lla := lla) (lst := lst) (rest := r) hD0 hP hO h0 h1 w0 w1
        rw [e1]
        simp only [bnd2, Option.bind_some, mx]
        have e3 : e.toInt = dfp p plc lcn od plot ppc lpr lla lst opr oop odu oli (WD odu oli n) := e2
        have e4 := u3 n g1 hn' hp
        refine ⟨_, rfl, ⟨n1.1, n1.2, ?_⟩, msr_lt hn'⟩
        dsimp only
        by_cases c : mo < e
        · rw [if_pos c]
          have a := i_lt.mp c
          refine ⟨by omega, by omega, fun q q0 q1 q2 => ?_⟩
          rcases nx q q1 with z | z
          · have := g5 q q0 z q2; omega
          · subst z; omega
        · rw [if_neg c]
          have a : ¬ mo.toInt < e.toInt := fun z => c (i_lt.mpr z)
          refine ⟨g3, g4, fun q q0 q1 q2 => ?_⟩
          rcases nx q q1 with z | z
          · exact g5 q q0 z q2
          · subst z; omega
      · rw [if_neg hp]
        refine ⟨_, rfl, ⟨n1.1, n1.2, g3, g4, fun q q0 q1 q2 => ?_⟩, msr_lt hn'⟩
        rcases nx q q1 with z | z
        · exact g5 q q0 z q2
        · subst z; exact absurd q2 hp) 10 (0, 0, r0) ⟨by dsimp only; decide, d25, Int.le_refl 0, u2, fun q q0 q1 => by
      dsimp only at q1
      have a := i_le.mp q0
      have b := i_lt.mp q1
      omega⟩ (msr_le (by dsimp only; decide) (by omega) (by decide))
  dsimp only at s2
  subst s2
  unfold f_L_isProved
  have hu : f_X7_unfilled p prods plc pkd plot ppc pmk pbd lcn lpr lla lst lbl od gif opr oop odu oli obd oha ost rest = some (.ok m2, pkd, plot, ppc, pmk, gif, oop, oha, ost, r0) := by
    unfold f_X7_unfilled
    rw [n_needProduct, if_pos ⟨h0, h1⟩]
    simp only [bnd1, Option.bind_some, mx]
    rw [u1]
    simp only [bnd10, Option.bind_some]
  rw [hu]
  simp only [bnd10, Option.bind_some, mx]
  rw [s1]
  simp only [bnd2, Option.bind_some]
  rw [if_pos trivial]
  by_cases hm0 : m2 = 0
  · rw [if_pos hm0]
    exact ⟨_, _, rfl⟩
  · rw [if_neg hm0]
    have hmi : m2.toInt ≠ 0 := fun z => hm0 (Int32.toInt_inj.mp z)
    obtain ⟨o, o0, o1, o2, o3⟩ := u4.resolve_left hmi
    obtain ⟨m3, r3, v1, -, -, -⟩ := a_unf (p := p) (pbd := pbd) (pkd := pkd) (gif := gif) (oha := oha) (ost := ost) (rest := r1) hD0 hP hL hLs hO hOs
    have hm3 : m3 = m2 := by
      obtain ⟨m4, r4, w1, w2, w3, w4⟩ := a_unf (p := p) (pbd := pbd) (pkd := pkd) (gif := gif) (oha := oha) (ost := ost) (rest := r1) hD0 hP hL hLs hO hOs
      have e := v1.symm.trans w1
      cases e
      apply Int32.toInt_inj.mp
      have a1 := w3 o o0 o1 o2
      rcases w4 with w4 | ⟨q, q0, q1, q2, q3⟩
      · have := u2; omega
      · have := u3 q q0 q1 q2; omega
    subst hm3
    obtain ⟨day, r4, t1, oo, ⟨t2, t3, t4, t5⟩, t6⟩ := a_proof (p := p) hD0 hP hL hLs hO hOs h0 h1 v1 hm0 ⟨o, o0, o1, o2, hop o o0 o1⟩
    rw [t1]
    simp only [Option.bind_some, mx]
    obtain ⟨y0, y1⟩ := wd_rng hO t2 t3
    rw [← t5] at y0 y1
    obtain ⟨e, r5, e1, e2⟩ := a_dif (p := p) (lpr := lpr) (lla := lla) (lst := lst) (rest := r4) hD0 hP hO h0 h1 y0 y1
    rw [e1]
    simp only [Option.bind_some, mx]
    have e3 : e.toInt = dfp p plc lcn od plot ppc lpr lla lst opr oop odu oli (WD odu oli oo) := by rw [e2, t5]
    have hem : dfp p plc lcn od plot ppc lpr lla lst opr oop odu oli (WD odu oli oo) = m3.toInt := by
      have a := u3 oo t2 t3 t4.1
      rcases t6 o o0 o1 ⟨o2, hop o o0 o1⟩ with z | ⟨z, -⟩ <;> omega
    rw [if_pos (Int32.toInt_inj.mp (by omega))]
    -- five days at will
    obtain ⟨e9, q1, r6, x6, q2⟩ := lp_one (f := fun z : Int32 × (Nat → Int32) × Int32 => f_L_isProved_L108 p m3 day od prods plc pkd plot ppc pmk pbd lcn lpr lla lst lbl od gif ocu opr oop odu oli obd oha ost z.1 z.2.1 z.2.2) (fun z => 0 ≤ z.1 ∧ z.1 ≤ 5) (fun e => ∃ r' x', e = .inr (r', x')) (fun z => msr z.1 5) (by
      rintro ⟨n, r, x⟩ ⟨g1, g2⟩
      dsimp only at g1 g2 ⊢
      unfold f_L_isProved_L108
      by_cases hn : (5 : Int32) ≤ n
      · right
        rw [if_pos hn]
        exact ⟨_, rfl, _, _, rfl⟩
      · left
        have hn' : n < 5 := Int32.not_le.mp hn
        obtain ⟨k, x', k1, k2, k3⟩ := t_next (n := 90) (x := x) (by decide)
        rw [if_neg hn, k1]
        simp only [bnd2, Option.bind_some]
        have k4 : k ≤ 3000 := by
          have a := i_lt.mp k3
          rw [show (90 : Int32).toInt = 90 from rfl] at a
          rw [i_le, show (3000 : Int32).toInt = 3000 from rfl]
          omega
        obtain ⟨f, r7, f1, f2⟩ := a_dif (p := p) (lpr := lpr) (lla := lla) (lst := lst) (rest := r) hD0 hP hO h0 h1 k2 k4
        rw [f1]
        simp only [Option.bind_some, mx]
        have f3 := dfp_le (p := p) (lpr := lpr) (lla := lla) (lst := lst) (opr := opr) (odu := odu) (oli := oli) (D := k.toInt) hpn hon u2 u3
        rw [if_pos (i_le.mpr (by omega))]
        refine ⟨_, rfl, ⟨?_, ?_⟩, msr_lt hn'⟩
        · dsimp only; clear hO hL hP hop hLs hOs hpn hon u3 t6; grind
        · dsimp only; clear hO hL hP hop hLs hOs hpn hon u3 t6; grind) 10 (0, r5, x) ⟨by dsimp only; decide, by dsimp only; decide⟩ (msr_le (by dsimp only; decide) (by decide) (by decide))
    rw [q1, q2]
    simp only [bnd1, Option.bind_some, sel]
    -- the first such day
    obtain ⟨e8, p1, r8, p2⟩ := lp_one (f := fun z : Int32 × (Nat → Int32) => f_L_isProved_L146 p m3 day od prods plc pkd plot ppc pmk pbd lcn lpr lla lst lbl od gif ocu opr oop odu oli obd oha ost x6 z.1 z.2) (fun z => 0 ≤ z.1 ∧ z.1 ≤ od) (fun e => ∃ r', e = .inr r') (fun z => msr z.1 od) (by
      rintro ⟨n, r⟩ ⟨g1, g2⟩
      dsimp only at g1 g2 ⊢
      unfold f_L_isProved_L146 f_L_isProved_L146_J201 f_L_isProved_L146_J202 f_L_isProved_L146_J233
      by_cases hn : od ≤ n
      · right
        rw [if_pos hn]
        exact ⟨_, rfl, _, rfl⟩
      · left
        have hn' : n < od := Int32.not_le.mp hn
        have n1 : 0 ≤ n + 1 ∧ n + 1 ≤ od := by clear hO hL hP hop hLs hOs hpn hon u3 u4 t6; grind
        rw [if_neg hn, a_or1 d26 g1 hn']
        simp only [bnd1, Option.bind_some, mx]
        by_cases hp : ix opr n = p
        · rw [if_pos hp, a_or2 d26 g1 hn']
          simp only [Option.bind_some, mx]
          have ho := hop n g1 hn'
          have ho2 : ¬ ix oop n ≤ 0 := by
            intro z
            have a := i_le.mp ho
            have b := i_le.mp z
            rw [show (1 : Int32).toInt = 1 from rfl] at a
            omega
          rw [if_neg ho2, a_or5 d26 g1 hn']
          simp only [Option.bind_some, mx]
          by_cases hc : day ≤ ix odu n + ix oli n
          · rw [if_pos hc, if_pos trivial]
            exact ⟨_, rfl, n1, msr_lt hn'⟩
          · rw [if_neg hc, if_neg one_ne]
            obtain ⟨w0, w1⟩ := wd_rng hO g1 hn'
            obtain ⟨f, r7, f1, f2⟩ := a_dif (p := p) (lpr := lpr) (lla := lla) (lst := lst) (rest := r) hD0 hP hO h0 h1 w0 w1
            rw [f1]
            simp only [bnd2, Option.bind_some, mx]
            have f3 : f.toInt = dfp p plc lcn od plot ppc lpr lla lst opr oop odu oli (WD odu oli n) := f2
            have hc2 : WD odu oli n < WD odu oli oo := by
              have a : ¬ day.toInt ≤ (ix odu n + ix oli n).toInt := fun z => hc (i_le.mpr z)
              have b : day.toInt = WD odu oli oo := by rw [t5]
              have c : (ix odu n + ix oli n).toInt = WD odu oli n := rfl
              omega
            have f4 : f.toInt < m3.toInt := by
              rcases t6 n g1 hn' ⟨hp, ho⟩ with z | ⟨z, z2⟩ <;> omega
            rw [if_pos (i_lt.mpr f4)]
            exact ⟨_, rfl, n1, msr_lt hn'⟩
        · rw [if_neg hp, if_pos trivial]
          exact ⟨_, rfl, n1, msr_lt hn'⟩) 10 (0, r6) ⟨by dsimp only; decide, d25⟩ (msr_le (by dsimp only; decide) (by omega) (by decide))
    rw [p1, p2]
    exact ⟨_, _, rfl⟩
end SV
