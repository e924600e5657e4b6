/-! ===== draws ===== -/
theorem y_rng (u : UInt32) : 0 ≤ (u >>> 16).toInt32.toInt ∧ (u >>> 16).toInt32.toInt < 65536 := by
  have h1 : (u >>> 16).toNat < 65536 := by
    rw [UInt32.toNat_shiftRight, show (16 : UInt32).toNat % 32 = 16 from rfl, Nat.shiftRight_eq_div_pow]
    have := u.toBitVec.isLt
    have e : u.toNat = u.toBitVec.toNat := rfl
    omega
  have h2 : (u >>> 16).toInt32.toInt = ((u >>> 16).toNat : Int) := by
    show (u >>> 16).toBitVec.toInt = _
    rw [BitVec.toInt_eq_toNat_of_lt (by show 2 * (u >>> 16).toNat < _; omega)]
    rfl
  omega
theorem t_next {n x : Int32} (h : 1 ≤ n) : ∃ r x', f_X8_next n x = some (r, x') ∧ 0 ≤ r ∧ r < n := by
  have e16 : ((16 : Int32).toUInt32 &&& Int32.toUInt32 31) = (16 : UInt32) := by decide
  obtain ⟨y, hy⟩ : ∃ y : Int32, y = (((x * 1103515245) + 12345).toUInt32 >>> (16 : UInt32)).toInt32 := ⟨_, rfl⟩
  have h1 : 0 ≤ y.toInt ∧ y.toInt < 65536 := by rw [hy]; exact y_rng _
  have ni := i_le.mp h
  rw [show (1 : Int32).toInt = 1 from rfl] at ni
  have nr := fb_rng n
  refine ⟨y - y / n * n, x * 1103515245 + 12345, ?_, ?_⟩
  · unfold f_X8_next
    rw [gz_ok (by rintro rfl; exact absurd ni (by decide)), e16, hy]
  · have q1 := Int.ediv_mul_le y.toInt (show n.toInt ≠ 0 by omega)
    have q2 := Int.lt_ediv_add_one_mul_self y.toInt (show 0 < n.toInt by omega)
    have q3 := Int.ediv_nonneg h1.1 (show 0 ≤ n.toInt by omega)
    have q4 : y.toInt / n.toInt ≤ y.toInt / n.toInt * n.toInt := by
      have := Int.mul_le_mul_of_nonneg_left ni q3
      omega
    rw [Int.add_mul, Int.one_mul] at q2
    have d1 : (y / n).toInt = y.toInt / n.toInt := by
      rw [Int32.toInt_div, Int.tdiv_eq_ediv_of_nonneg h1.1]
      exact Int.bmod_eq_of_le (by omega) (by omega)
    have d2 : (y / n * n).toInt = y.toInt / n.toInt * n.toInt := by
      rw [i_mul (by rw [d1]; omega) (by rw [d1]; omega), d1]
    have d3 : (y - y / n * n).toInt = y.toInt - y.toInt / n.toInt * n.toInt := by
      rw [i_sub (by rw [d2]; omega) (by rw [d2]; omega), d2]
    constructor
    · rw [i_le, d3, show (0 : Int32).toInt = 0 from rfl]; omega
    · rw [i_lt, d3]; omega
/-! ===== the difference at a day, what stays open ===== -/
section SV
variable {tod prods lan pos rom gp plc lcn ocn gif p : Int32} {pkd : Int64} {plot ppc pmk pbd lpr lla lco lst lbl ocu opr oop odu oli obd oha ost rest w : Nat → Int32}
/-- the difference, over what is on hand -/
def dfp (p plc lcn ocn : Int32) (plot ppc lpr lla lst opr oop odu oli : Nat → Int32) (D : Int) : Int := DF p ocn lcn lpr lla lst opr oop odu oli (fun k => pof plc plot ppc (Int32.ofNat k)) D
theorem pofk {l : Int32} (l0 : 0 ≤ l) : ix (fun k => pof plc plot ppc (Int32.ofNat k)) l = pof plc plot ppc l := by
  show pof plc plot ppc (Int32.ofNat l.toNatClampNeg) = _
  rw [of_tn l0]
theorem a_lack (hD : QD tod prods lan pos rom gp plc lcn ocn w) (hP : QP plc rom lcn plot ppc pmk w) (hO : QO ocn prods ocu opr oop odu oli w) {day : Int32} : ∃ e rest', f_X7_lackAt p day plc plot ppc lcn lpr lla lst ocn opr oop odu oli rest = some (e, rest') ∧ e.toInt = dfp p plc lcn ocn plot ppc lpr lla lst opr oop odu oli day.toInt := by
  obtain ⟨d0, d1, d2, d3, d4, d5, d6, d7, d8, d9, d10, d11, d12, d13, d14, d15, d16, d17, d18, d19, d20, d21, d22, d23, d24, d25, d26⟩ := hD
  have hw : w 1 * w 2 = plc := by rw [d3, d6, d15]
  have p0 : 0 ≤ plc := by grind
  obtain ⟨rest', c1, c2⟩ := count_pof hw d16 d17 d23 hP rest
  obtain ⟨e, q1, q2⟩ := n_lack (p := p) (day := day) (lpr := lpr) (lla := lla) (lst := lst) d22 d23 d25 d26 hO c1 (fun l l0 l1 => by
    rw [c2 l l0 (Int32.lt_of_lt_of_le l1 d23)]
    exact pof_rng p0 d17 d11 d10 hP)
  refine ⟨e, rest', q1, ?_⟩
  rw [q2]
  unfold dfp DF
  rw [zS_eq (N := lcn) (F := fun l => if FT p lpr lla lst day.toInt l then (ix rest' l).toInt else 0) (G := fun l => if FT p lpr lla lst day.toInt l then (ix (fun k => pof plc plot ppc (Int32.ofNat k)) l).toInt else 0) (fun l l0 l1 => by
    rw [c2 l l0 (Int32.lt_of_lt_of_le l1 d23), pofk l0])]
theorem a_dif (hD : QD tod prods lan pos rom gp plc lcn ocn w) (hP : QP plc rom lcn plot ppc pmk w) (hO : QO ocn prods ocu opr oop odu oli w) (h0 : 0 ≤ p) (h1 : p < prods) {day : Int32} (g0 : 0 ≤ day) (g1 : day ≤ 3000) : ∃ e rest', f_X7_difference p day prods plc plot ppc lcn lpr lla lst ocn opr oop odu oli rest = some (.ok e, rest') ∧ e.toInt = dfp p plc lcn ocn plot ppc lpr lla lst opr oop odu oli day.toInt := by
  obtain ⟨e, rest', q1, q2⟩ := a_lack (p := p) (lpr := lpr) (lla := lla) (lst := lst) (rest := rest) (day := day) hD hP hO
  refine ⟨e, rest', ?_, q2⟩
  unfold f_X7_difference
  rw [n_needProduct, if_pos ⟨h0, h1⟩]
  simp only [bnd1, Option.bind_some, mx]
  rw [n_range, if_pos ⟨g0, g1⟩]
  simp only [Option.bind_some, mx]
  rw [q1]
  simp only [bnd2, Option.bind_some]
theorem a_unf (hD : QD tod prods lan pos rom gp plc lcn ocn w) (hP : QP plc rom lcn plot ppc pmk w) (hL : QL lcn prods lpr lla lco lst w) (hLs : QLs lcn lla lbl) (hO : QO ocn prods ocu opr oop odu oli w) (hOs : QLs ocn odu obd) : ∃ m rest', f_X7_leftOpen p plc pkd plot ppc pmk pbd lcn lpr lla lst lbl ocn gif opr oop odu oli obd oha ost rest = some (m, pkd, plot, ppc, pmk, gif, oop, oha, ost, rest') ∧ 0 ≤ m.toInt ∧ (∀ o : Int32, 0 ≤ o → o < ocn → ix opr o = p → dfp p plc lcn ocn plot ppc lpr lla lst opr oop odu oli (WD odu oli o) ≤ m.toInt) ∧ (m.toInt = 0 ∨ ∃ o : Int32, 0 ≤ o ∧ o < ocn ∧ ix opr o = p ∧ m.toInt = dfp p plc lcn ocn plot ppc lpr lla lst opr oop odu oli (WD odu oli o)) := by
  obtain ⟨d0, d1, d2, d3, d4, d5, d6, d7, d8, d9, d10, d11, d12, d13, d14, d15, d16, d17, d18, d19, d20, d21, d22, d23, d24, d25, d26⟩ := hD
  have hw : w 1 * w 2 = plc := by rw [d3, d6, d15]
  have p0 : 0 ≤ plc := by grind
  have hc : ∀ rest, ∃ rest', f_X5_countLots plc plot ppc rest = some rest' ∧ ∀ l : Int32, 0 ≤ l → l < lcn → ix rest' l = ix (fun k => pof plc plot ppc (Int32.ofNat k)) l := fun rest => by
    obtain ⟨rest', c1, c2⟩ := count_pof hw d16 d17 d23 hP rest
    exact ⟨rest', c1, fun l l0 l1 => by rw [pofk l0]; exact c2 l l0 (Int32.lt_of_lt_of_le l1 d23)⟩
  have hr : ∀ l : Int32, 0 ≤ l → l < lcn → 0 ≤ (ix (fun k => pof plc plot ppc (Int32.ofNat k)) l).toInt ∧ (ix (fun k => pof plc plot ppc (Int32.ofNat k)) l).toInt ≤ 960 := fun l l0 l1 => by
    rw [pofk l0]
    exact pof_rng p0 d17 d11 d10 hP
  have hla : ∀ l : Int32, 0 ≤ l → l < lcn → 0 ≤ (ix lla l).toInt := fun l l0 l1 => by
    obtain ⟨-, -, -, -, q, -⟩ := hL l l0 l1
    exact i_le.mp q
  obtain ⟨m, r', s1, s2⟩ := left_lack (p := p) (pk := pkd) (c := pmk) (pbd := pbd) (gif := gif) (oha := oha) (ost := ost) (crest := rest) (lpr := lpr) (lst := lst) d22 d23 d25 d26 hLs hO hOs hla hc hr
  obtain ⟨m2, r2, t1, t2, t3, t4⟩ := n_great (p := p) (lpr := lpr) (lla := lla) (lst := lst) (rest := rest) d22 d23 d25 d26 hO hc hr
  obtain ⟨r3, s3⟩ := s2 rest
  have e : m = m2 := by
    have := s3.symm.trans t1
    cases this
    rfl
  subst e
  exact ⟨m, r', s1, t2, t3, t4⟩
/-- over no day is the difference greater than at the wanted days, or 0 -/
theorem dfp_le {D m : Int} (hP0 : ∀ l : Int32, 0 ≤ l → l < lcn → 0 ≤ (pof plc plot ppc l).toInt) (ho : ∀ o : Int32, 0 ≤ o → o < ocn → 0 ≤ (ix oop o).toInt) (hm : 0 ≤ m) (h : ∀ o : Int32, 0 ≤ o → o < ocn → ix opr o = p → dfp p plc lcn ocn plot ppc lpr lla lst opr oop odu oli (WD odu oli o) ≤ m) : dfp p plc lcn ocn plot ppc lpr lla lst opr oop odu oli D ≤ m := by
  have nn : ∀ E : Int, 0 ≤ zS (fun l => if FT p lpr lla lst E l then (ix (fun k => pof plc plot ppc (Int32.ofNat k)) l).toInt else 0) lcn.toNatClampNeg := fun E => zS_nn (fun l l0 l1 => by
    by_cases q : FT p lpr lla lst E l
    · rw [if_pos q, pofk l0]; exact hP0 l l0 l1
    · rw [if_neg q]; exact Int.le_refl 0)
  rcases max_in (P := fun o => ix opr o = p ∧ D ≤ WD odu oli o) (key := fun o => - WD odu oli o) ocn with q | ⟨k, k0, k1, ⟨k2, k3⟩, k4⟩
  · have e0 : zS (OF p opr oop odu oli D) ocn.toNatClampNeg = 0 := by
      rw [zS_eq (N := ocn) (G := fun _ => 0) (fun o o0 o1 => if_neg (q o o0 o1)), zS_0]
    have := nn D
    unfold dfp DF
    omega
  · have h1 := h k k0 k1 k2
    have e1 : zS (OF p opr oop odu oli D) ocn.toNatClampNeg = zS (OF p opr oop odu oli (WD odu oli k)) ocn.toNatClampNeg := zS_eq (fun o o0 o1 => by
      by_cases a : ix opr o = p ∧ D ≤ WD odu oli o
      · have := k4 o o0 o1 a
        try dsimp only at this
        exact (if_pos a).trans (if_pos (show ix opr o = p ∧ WD odu oli k ≤ WD odu oli o from ⟨a.1, by omega⟩)).symm
      · refine (if_neg a).trans (if_neg ?_).symm
        rintro ⟨b1, b2⟩
        exact a ⟨b1, by omega⟩)
    have e2 : zS (fun l => if FT p lpr lla lst (WD odu oli k) l then (ix (fun k => pof plc plot ppc (Int32.ofNat k)) l).toInt else 0) lcn.toNatClampNeg ≤ zS (fun l => if FT p lpr lla lst D l then (ix (fun k => pof plc plot ppc (Int32.ofNat k)) l).toInt else 0) lcn.toNatClampNeg := zS_le (fun l l0 l1 => by
      by_cases a : FT p lpr lla lst (WD odu oli k) l
      · rw [if_pos a, if_pos (show FT p lpr lla lst D l from ⟨a.1, a.2.1, by have := a.2.2; omega⟩)]
        exact Int.le_refl _
      · rw [if_neg a]
        by_cases b : FT p lpr lla lst D l
        · rw [if_pos b, pofk l0]; exact hP0 l l0 l1
        · rw [if_neg b]; exact Int.le_refl 0)
    unfold dfp DF at h1 ⊢
    omega
/-- an order with open pieces of the product -/
abbrev OP1 (p : Int32) (opr oop : Nat → Int32) (o : Int32) : Prop := ix opr o = p ∧ 1 ≤ ix oop o
/-- the proof day -/
theorem a_proof (hD : QD tod prods lan pos rom gp plc lcn ocn w) (hP : QP plc rom lcn plot ppc pmk w) (hL : QL lcn prods lpr lla lco lst w) (hLs : QLs lcn lla lbl) (hO : QO ocn prods ocu opr oop odu oli w) (hOs : QLs ocn odu obd) (h0 : 0 ≤ p) (h1 : p < prods) {m : Int32} {r0 : Nat → Int32} (hm : f_X7_leftOpen p plc pkd plot ppc pmk pbd lcn lpr lla lst lbl ocn gif opr oop odu oli obd oha ost rest = some (m, pkd, plot, ppc, pmk, gif, oop, oha, ost, r0)) (hm0 : m ≠ 0) (hex : ∃ o : Int32, 0 ≤ o ∧ o < ocn ∧ OP1 p opr oop o) :
    ∃ day rest', f_X7_proofDay p prods plc pkd plot ppc pmk pbd lcn lpr lla lst lbl ocn gif opr oop odu oli obd oha ost rest = some (.ok day, pkd, plot, ppc, pmk, gif, oop, oha, ost, rest') ∧ ∃ o : Int32, (0 ≤ o ∧ o < ocn ∧ OP1 p opr oop o ∧ day = ix odu o + ix oli o) ∧ ∀ q : Int32, 0 ≤ q → q < ocn → OP1 p opr oop q → dfp p plc lcn ocn plot ppc lpr lla lst opr oop odu oli (WD odu oli q) < dfp p plc lcn ocn plot ppc lpr lla lst opr oop odu oli (WD odu oli o) ∨ (dfp p plc lcn ocn plot ppc lpr lla lst opr oop odu oli (WD odu oli q) = dfp p plc lcn ocn plot ppc lpr lla lst opr oop odu oli (WD odu oli o) ∧ WD odu oli o ≤ WD odu oli q) := by
  have hD0 := hD
  obtain ⟨d0, d1, d2, d3, d4, d5, d6, d7, d8, d9, d10, d11, d12, d13, d14, d15, d16, d17, d18, d19, d20, d21, d22, d23, d24, d25, d26⟩ := hD
  have hwd : ∀ q : Int32, 0 ≤ q → q < ocn → ix odu q + ix oli q ≠ -1 := by
    intro q q0 q1
    obtain ⟨-, -, -, -, -, -, -, -, -, -, u1, u2, -, u3, u4⟩ := hO q q0 q1
    clear hO hL hP hD0
    grind
  obtain ⟨⟨day, r⟩, s1, s2⟩ := lp_one (f := fun z : Int32 × Int32 × Int32 × (Nat → Int32) => f_X7_proofDay_L30 p prods plc pkd plot ppc pmk pbd lcn lpr lla lst lbl ocn gif opr oop odu oli obd oha ost z.1 z.2.1 z.2.2.1 z.2.2.2)
    (fun z => 0 ≤ z.2.2.1 ∧ z.2.2.1 ≤ ocn ∧ ((z.1 = -1 ∧ ∀ q : Int32, 0 ≤ q → q < z.2.2.1 → ¬ OP1 p opr oop q) ∨ ∃ o : Int32, (0 ≤ o ∧ o < z.2.2.1 ∧ OP1 p opr oop o ∧ z.1 = ix odu o + ix oli o) ∧ z.2.1.toInt = dfp p plc lcn ocn plot ppc lpr lla lst opr oop odu oli (WD odu oli o) ∧ ∀ q : Int32, 0 ≤ q → q < z.2.2.1 → OP1 p opr oop q → dfp p plc lcn ocn plot ppc lpr lla lst opr oop odu oli (WD odu oli q) < z.2.1.toInt ∨ (dfp p plc lcn ocn plot ppc lpr lla lst opr oop odu oli (WD odu oli q) = z.2.1.toInt ∧ WD odu oli o ≤ WD odu oli q)))
    (fun e => ∃ o : Int32, (0 ≤ o ∧ o < ocn ∧ OP1 p opr oop o ∧ e.1 = ix odu o + ix oli o) ∧ ∀ q : Int32, 0 ≤ q → q < ocn → OP1 p opr oop q → dfp p plc lcn ocn plot ppc lpr lla lst opr oop odu oli (WD odu oli q) < dfp p plc lcn ocn plot ppc lpr lla lst opr oop odu oli (WD odu oli o) ∨ (dfp p plc lcn ocn plot ppc lpr lla lst opr oop odu oli (WD odu oli q) = dfp p plc lcn ocn plot ppc lpr lla lst opr oop odu oli (WD odu oli o) ∧ WD odu oli o ≤ WD odu oli q)) (fun z => msr z.2.2.1 ocn) (by
    rintro ⟨dy, gr, n, r⟩ ⟨g1, g2, g3⟩
    dsimp only at g1 g2 g3 ⊢
    unfold f_X7_proofDay_L30 f_X7_proofDay_L30_J124 f_X7_proofDay_L30_J130
    by_cases hn : ocn ≤ n
    · right
      have en : n = ocn := by clear hO hL hP hD0 g3; grind
      subst en
      rw [if_pos hn]
      refine ⟨_, rfl, ?_⟩
      rcases g3 with ⟨-, g3⟩ | ⟨o, g3, g4, g5⟩
      · obtain ⟨o, o0, o1, o2⟩ := hex
        exact absurd o2 (g3 o o0 o1)
      · refine ⟨o, g3, fun q q0 q1 q2 => ?_⟩
        have := g5 q q0 q1 q2
        rw [g4] at this
        exact this
    · left
      have hn' : n < ocn := Int32.not_le.mp hn
      have n40 : n < 40 := Int32.lt_of_lt_of_le hn' d26
      have n1 : 0 ≤ n + 1 ∧ n + 1 ≤ ocn := by clear hO hL hP hD0 g3; grind
      have nx : ∀ q : Int32, q < n + 1 → q < n ∨ q = n := by intro q; clear hO hL hP hD0 g3; grind
      have no : ∀ q : Int32, q < n → q < n + 1 := by intro q; clear hO hL hP hD0 g3; grind
      have nn : n < n + 1 := by clear hO hL hP hD0 g3; grind
      rw [if_neg hn, gd_40 g1 n40]
      by_cases hp : ix opr n = p
      · rw [if_pos hp, gd_40 g1 n40]
        by_cases ho : 1 ≤ ix oop n
        · have ho2 : ¬ oop n.toNatClampNeg ≤ 0 := by
            intro z
            have a := i_le.mp ho
            have b := i_le.mp z
            rw [show (1 : Int32).toInt = 1 from rfl] at a
            rw [show (0 : Int32).toInt = 0 from rfl] at b
            have : (ix oop n).toInt = (oop n.toNatClampNeg).toInt := rfl
            omega
          rw [if_neg ho2, n_wanted d26 g1 hn']
          simp only [bnd1, Option.bind_some]
          obtain ⟨e, r', e1, e2⟩ := a_lack (p := p) (lpr := lpr) (lla := lla) (lst := lst) (rest := r) (day := ix odu n + ix oli n) hD0 hP hO
          rw [e1]
          simp only [bnd2, Option.bind_some]
          have e3 : e.toInt = dfp p plc lcn ocn plot ppc lpr lla lst opr oop odu oli (WD odu oli n) := e2
          -- the new one is taken
          have take : (∀ q : Int32, 0 ≤ q → q < n → OP1 p opr oop q → dfp p plc lcn ocn plot ppc lpr lla lst opr oop odu oli (WD odu oli q) < e.toInt ∨ (dfp p plc lcn ocn plot ppc lpr lla lst opr oop odu oli (WD odu oli q) = e.toInt ∧ WD odu oli n ≤ WD odu oli q)) → ∃ s' : Int32 × Int32 × Int32 × (Nat → Int32), (some (Sum.inl (ix odu n + ix oli n, e, n + 1, r')) : Option ((Int32 × Int32 × Int32 × (Nat → Int32)) ⊕ (Int32 × (Nat → Int32)))) = some (Sum.inl s') ∧ (0 ≤ s'.2.2.1 ∧ s'.2.2.1 ≤ ocn ∧ ((s'.1 = -1 ∧ ∀ q : Int32, 0 ≤ q → q < s'.2.2.1 → ¬ OP1 p opr oop q) ∨ ∃ o : Int32, (0 ≤ o ∧ o < s'.2.2.1 ∧ OP1 p opr oop o ∧ s'.1 = ix odu o + ix oli o) ∧ s'.2.1.toInt = dfp p plc lcn ocn plot ppc lpr lla lst opr oop odu oli (WD odu oli o) ∧ ∀ q : Int32, 0 ≤ q → q < s'.2.2.1 → OP1 p opr oop q → dfp p plc lcn ocn plot ppc lpr lla lst opr oop odu oli (WD odu oli q) < s'.2.1.toInt ∨ (dfp p plc lcn ocn plot ppc lpr lla lst opr oop odu oli (WD odu oli q) = s'.2.1.toInt ∧ WD odu oli o ≤ WD odu oli q))) ∧ msr s'.2.2.1 ocn < msr n ocn := by
            intro hq
            refine ⟨_, rfl, ⟨n1.1, n1.2, Or.inr ⟨n, ⟨g1, nn, ⟨hp, ho⟩, rfl⟩, e3, fun q q0 q1 q2 => ?_⟩⟩, msr_lt hn'⟩
            rcases nx q q1 with z | z
            · exact hq q q0 z q2
            · subst z; exact Or.inr ⟨e3.symm, Int.le_refl _⟩
          by_cases c1 : dy = -1
          · rw [if_pos c1]
            refine take (fun q q0 q1 q2 => ?_)
            rcases g3 with ⟨-, g3⟩ | ⟨o, ⟨o0, o1, o2, o3⟩, -⟩
            · exact absurd q2 (g3 q q0 q1)
            · exact absurd (o3.symm.trans c1) (hwd o o0 (Int32.lt_trans o1 hn'))
          · rw [if_neg c1]
            rcases g3 with ⟨g3, -⟩ | ⟨o, ⟨o0, o1, o2, o3⟩, g4, g5⟩
            · exact absurd g3 c1
            · have keep : (e.toInt < gr.toInt ∨ (e.toInt = gr.toInt ∧ WD odu oli o ≤ WD odu oli n)) → ∃ s' : Int32 × Int32 × Int32 × (Nat → Int32), (some (Sum.inl (dy, gr, n + 1, r')) : Option ((Int32 × Int32 × Int32 × (Nat → Int32)) ⊕ (Int32 × (Nat → Int32)))) = some (Sum.inl s') ∧ (0 ≤ s'.2.2.1 ∧ s'.2.2.1 ≤ ocn ∧ ((s'.1 = -1 ∧ ∀ q : Int32, 0 ≤ q → q < s'.2.2.1 → ¬ OP1 p opr oop q) ∨ ∃ o : Int32, (0 ≤ o ∧ o < s'.2.2.1 ∧ OP1 p opr oop o ∧ s'.1 = ix odu o + ix oli o) ∧ s'.2.1.toInt = dfp p plc lcn ocn plot ppc lpr lla lst opr oop odu oli (WD odu oli o) ∧ ∀ q : Int32, 0 ≤ q → q < s'.2.2.1 → OP1 p opr oop q → dfp p plc lcn ocn plot ppc lpr lla lst opr oop odu oli (WD odu oli q) < s'.2.1.toInt ∨ (dfp p plc lcn ocn plot ppc lpr lla lst opr oop odu oli (WD odu oli q) = s'.2.1.toInt ∧ WD odu oli o ≤ WD odu oli q))) ∧ msr s'.2.2.1 ocn < msr n ocn := by
                intro hk
                refine ⟨_, rfl, ⟨n1.1, n1.2, Or.inr ⟨o, ⟨o0, no o o1, o2, o3⟩, g4, fun q q0 q1 q2 => ?_⟩⟩, msr_lt hn'⟩
                rcases nx q q1 with z | z
                · exact g5 q q0 z q2
                · subst z; rw [← e3]; exact hk
              have od : dy.toInt = WD odu oli o := by rw [o3]
              by_cases c2 : gr < e
              · rw [if_pos c2]
                refine take (fun q q0 q1 q2 => ?_)
                have a := i_lt.mp c2
                rcases g5 q q0 q1 q2 with z | ⟨z, -⟩
                · exact Or.inl (by omega)
                · exact Or.inl (by omega)
              · rw [if_neg c2]
                have a : ¬ gr.toInt < e.toInt := fun z => c2 (i_lt.mpr z)
                by_cases c3 : e = gr
                · rw [if_pos c3]
                  have e4 : e.toInt = gr.toInt := by rw [c3]
                  by_cases c4 : dy ≤ ix odu n + ix oli n
                  · rw [if_pos c4]
                    have b := i_le.mp c4
                    exact keep (Or.inr ⟨e4, by rw [← od]; exact b⟩)
                  · rw [if_neg c4]
                    have b := fun z => c4 (i_le.mpr z)
                    refine take (fun q q0 q1 q2 => ?_)
                    have b2 : WD odu oli n < WD odu oli o := by rw [← od]; exact Int.not_le.mp b
                    rcases g5 q q0 q1 q2 with z | ⟨z, z2⟩
                    · exact Or.inl (by omega)
                    · exact Or.inr ⟨by omega, by omega⟩
                · rw [if_neg c3]
                  have e4 : e.toInt ≠ gr.toInt := fun z => c3 (Int32.toInt_inj.mp z)
                  exact keep (Or.inl (by omega))
        · have ho2 : oop n.toNatClampNeg ≤ 0 := by
            rw [i_le] at ho ⊢
            rw [show (1 : Int32).toInt = 1 from rfl] at ho
            rw [show (0 : Int32).toInt = 0 from rfl]
            have : (ix oop n).toInt = (oop n.toNatClampNeg).toInt := rfl
            omega
          rw [if_pos ho2]
          refine ⟨_, rfl, ⟨n1.1, n1.2, ?_⟩, msr_lt hn'⟩
          rcases g3 with ⟨g3, g4⟩ | ⟨o, ⟨o0, o1, o2, o3⟩, g4, g5⟩
          · refine Or.inl ⟨g3, fun q q0 q1 q2 => ?_⟩
            rcases nx q q1 with z | z
            · exact g4 q q0 z q2
            · subst z; exact ho q2.2
          · refine Or.inr ⟨o, ⟨o0, no o o1, o2, o3⟩, g4, fun q q0 q1 q2 => ?_⟩
            rcases nx q q1 with z | z
            · exact g5 q q0 z q2
            · subst z; exact absurd q2.2 ho
      · rw [if_neg hp]
        refine ⟨_, rfl, ⟨n1.1, n1.2, ?_⟩, msr_lt hn'⟩
        rcases g3 with ⟨g3, g4⟩ | ⟨o, ⟨o0, o1, o2, o3⟩, g4, g5⟩
        · refine Or.inl ⟨g3, fun q q0 q1 q2 => ?_⟩
          rcases nx q q1 with z | z
          · exact g4 q q0 z q2
          · subst z; exact hp q2.1
        · refine Or.inr ⟨o, ⟨o0, no o o1, o2, o3⟩, g4, fun q q0 q1 q2 => ?_⟩
          rcases nx q q1 with z | z
          · exact g5 q q0 z q2
          · subst z; exact absurd q2.1 hp) fu (-1, 0, 0, r0) ⟨by dsimp only; decide, d25, Or.inl ⟨rfl, fun q q0 q1 => by
        dsimp only at q1
        have a := i_le.mp q0
        have b := i_lt.mp q1
        omega⟩⟩ (msr_fu (by dsimp only; decide) (by clear hO hL hP hD0; grind))
  refine ⟨day, r, ?_, s2⟩
  unfold f_X7_proofDay
  rw [n_needProduct, if_pos ⟨h0, h1⟩]
  simp only [bnd1, Option.bind_some, mx]
  rw [hm]
  simp only [bnd10, Option.bind_some]
  rw [if_neg hm0, s1]
  simp only [bnd2, Option.bind_some]
end SV
