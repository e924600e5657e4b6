/-! ===== the plans ===== -/
theorem c_gcd {x y : Int64} (hx : 0 ≤ x.toInt) (hy : 1 ≤ y.toInt) (hb : x.toInt * y.toInt < 2 ^ 99) : ∃ r, f_X7_commonDivisor x y = some r ∧ 1 ≤ r.toInt ∧ r.toInt ∣ x.toInt ∧ r.toInt ∣ y.toInt := by
  have z0 : (0 : Int64).toInt = 0 := rfl
  obtain ⟨e, q1, q2, q3, q4⟩ := lp_one (f := fun z : Int64 × Int64 × Int32 => f_X7_commonDivisor_L9 z.1 z.2.1 z.2.2)
    (fun t => 0 ≤ t.1.toInt ∧ 0 ≤ t.2.1.toInt ∧ (t.2.1.toInt = 0 → 1 ≤ t.1.toInt) ∧ (∀ d : Int, d ∣ t.1.toInt → d ∣ t.2.1.toInt → d ∣ x.toInt ∧ d ∣ y.toInt) ∧ ∃ n : Nat, t.2.2 = Int32.ofNat n ∧ n ≤ 100 ∧ (n = 0 ∨ t.2.1.toInt ≤ t.1.toInt) ∧ t.1.toInt * t.2.1.toInt < 2 ^ (100 - n) ∧ (n = 0 → t.1.toInt * t.2.1.toInt < 2 ^ 99)) (fun e => 1 ≤ e.toInt ∧ e.toInt ∣ x.toInt ∧ e.toInt ∣ y.toInt) (fun s => msr s.2.2 1000) (by
    rintro ⟨a, b, k⟩ ⟨h3, h4, h5, hd, n, h6, h7, h8, h9, h10⟩
    dsimp only at h3 h4 h5 hd h6 h7 h8 h9 h10 ⊢
    subst h6
    unfold f_X7_commonDivisor_L9
    rw [if_neg (show ¬ (1000 : Int32) ≤ Int32.ofNat n from fun z => absurd ((on_le (k := 1000) (m := n) (by omega) (by omega)).mp z) (by omega))]
    by_cases hz : lg_cmp b 0 = 0
    · right
      rw [if_pos hz]
      have b0 := lg_lt.2.2.mp hz
      rw [z0] at b0
      obtain ⟨u1, u2⟩ := hd a.toInt (Int.dvd_refl _) (by rw [b0]; exact Int.dvd_zero _)
      exact ⟨a, rfl, h5 b0, u1, u2⟩
    · left
      rw [if_neg hz]
      have b0 : b.toInt ≠ 0 := fun e => hz (lg_lt.2.2.mpr (by rw [z0]; exact e))
      have bn : b ≠ 0 := fun e => b0 (by rw [e]; rfl)
      have gzz : ∀ {α : Type} {t : Option α}, gz b t = t := by
        intro α t
        unfold gz
        rw [if_neg (by simpa using bn)]
      rw [gzz, on_inc]
      have m := i64_mod (x := a) (y := b) h3 (by omega)
      have m0 := Int.emod_nonneg a.toInt b0
      have m1 := Int.emod_lt_of_pos a.toInt (show 0 < b.toInt by omega)
      have n1 : n < 100 := by
        apply Classical.byContradiction
        intro z
        have en : n = 100 := by omega
        subst en
        rcases h8 with y | y
        · omega
        · have := Int.mul_le_mul_of_nonneg_left (show 1 ≤ b.toInt by omega) h3
          have e2 : (2 : Int) ^ (100 - 100) = 1 := rfl
          rw [e2] at h9
          omega
      refine ⟨(b, a - a / b * b, Int32.ofNat (n + 1)), rfl, ⟨by dsimp only; omega, by dsimp only; rw [m]; exact m0, fun _ => by dsimp only; omega, ?_, n + 1, rfl, by omega, Or.inr (by dsimp only; rw [m]; omega), ?_, fun z => absurd z (by omega)⟩, by dsimp only; rw [← on_inc]; exact msr_lt ((on_lt (k := n) (m := 1000) (by omega) (by omega)).mpr (by omega))⟩
      · intro d d1 d2
        dsimp only at d1 d2
        rw [m] at d2
        refine hd d ?_ d1
        have e := Int.mul_ediv_add_emod a.toInt b.toInt
        rw [← e]
        exact Int.dvd_add (Int.dvd_trans d1 (Int.dvd_mul_right _ _)) d2
      dsimp only
      rw [m]
      by_cases hc : b.toInt ≤ a.toInt
      · have h := half_mod (show 0 < b.toInt by omega) hc
        have e2 : (2 : Int) ^ (100 - n) = 2 ^ (100 - (n + 1)) * 2 := by
          rw [← Int.pow_succ]
          congr 1
          omega
        rw [e2] at h9
        omega
      · have en : n = 0 := by rcases h8 with y | y <;> omega
        subst en
        rw [Int.emod_eq_of_lt h3 (by omega), Int.mul_comm]
        exact h10 rfl) fu (x, y, 0) ⟨hx, by dsimp only; omega, fun z => by dsimp only at z; omega, fun d d1 d2 => ⟨d1, d2⟩, 0, rfl, by omega, Or.inl rfl, by dsimp only; omega, fun _ => hb⟩ (msr_fu (by dsimp only; decide) (by decide))
  refine ⟨e, ?_, q2, q3, q4⟩
  unfold f_X7_commonDivisor
  rw [q1, bnd1_s]
theorem i64_quo {x y : Int64} (hx : 0 ≤ x.toInt) : (x / y).toInt = x.toInt / y.toInt := by
  rw [Int64.toInt_div_of_ne_left x y (fun h => by rw [h] at hx; exact absurd hx (by decide)), Int.tdiv_eq_ediv_of_nonneg hx]
theorem take_same {pt trm : Nat → Int32} (h : ∀ i : Nat, i < 10 → pt i = trm i) : f_X4_takeTerms pt trm = some (0, pt) := by
  obtain ⟨e, e1, e2⟩ := lp_one (f := fun z : Int32 × Int32 × (Nat → Int32) => f_X4_takeTerms_L4 trm z.1 z.2.1 z.2.2)
    (fun z => (∃ j : Nat, z.2.1 = Int32.ofNat j ∧ j ≤ 10) ∧ z.1 = 0 ∧ z.2.2 = pt) (fun e => e = (0, pt)) (fun z => msr z.2.1 10) (by
    rintro ⟨b, k, f⟩ ⟨⟨j, q1, q2⟩, q3, q4⟩
    dsimp only at q1 q3 q4 ⊢
    subst q1 q3 q4
    unfold f_X4_takeTerms_L4
    by_cases hj : 10 ≤ j
    · right
      rw [if_pos (show (10 : Int32) ≤ Int32.ofNat j from (on_le (k := 10) (m := j) (by omega) (by omega)).mpr hj)]
      exact ⟨_, rfl, rfl⟩
    · left
      have nj : ¬ (10 : Int32) ≤ Int32.ofNat j := fun z => hj ((on_le (k := 10) (m := j) (by omega) (by omega)).mp z)
      have j10 : Int32.ofNat j < 10 := Int32.not_le.mp nj
      obtain ⟨k1, k2, k3⟩ := on_k (show j < 100000 by omega)
      have hjl : j < 10 := by omega
      have eu : upd f j (trm j) = f := by
        funext i
        unfold upd
        by_cases z : i = j
        · rw [if_pos z, z]; exact (h j hjl).symm
        · rw [if_neg z]
      rw [if_neg nj, if_neg nj, if_pos rfl, gd_10 k3 j10, gd_10 k3 j10, k1, if_pos (h j hjl)]
      unfold f_X4_takeTerms_L4_J40
      rw [gd_10 k3 j10, gd_10 k3 j10, k1, eu]
      exact ⟨_, rfl, ⟨⟨j + 1, on_inc, by omega⟩, rfl, rfl⟩, msr_lt j10⟩) fu (0, 0, pt) ⟨⟨0, rfl, by omega⟩, rfl, rfl⟩ (msr_fu (by dsimp only; decide) (by decide))
  subst e2
  unfold f_X4_takeTerms
  rw [e1, bnd2_s, gb_ok (Or.inl rfl)]
theorem solve_same {pt lo hi act trm : Nat → Int32} {bo co : Nat → Int64} (h : ∀ i : Nat, i < 10 → pt i = trm i) : f_X4_solve pt lo hi bo co act trm = some (pt, lo, hi, bo, co, act) := by
  unfold f_X4_solve
  rw [take_same h, bnd2_s, if_pos rfl]
section PLAN
variable {trm pt lo hi act w : Nat → Int32} {bo co : Nat → Int64} {n : Nat}
theorem per_ok (hn : n < 5) : 1 ≤ Int32.ofNat (n + 1) ∧ Int32.ofNat (n + 1) ≤ 5 ∧ 0 ≤ Int32.ofNat (n + 1) ∧ Int32.ofNat (n + 1) < 6 ∧ (Int32.ofNat (n + 1)).toNatClampNeg = n + 1 :=
  ⟨(on_le (k := 1) (m := n + 1) (by omega) (by omega)).mpr (by omega), (on_le (k := n + 1) (m := 5) (by omega) (by omega)).mpr (by omega), (on_k (by omega)).2.2, (on_lt (k := n + 1) (m := 6) (by omega) (by omega)).mpr (by omega), (on_k (by omega)).1⟩
theorem a_low0 (hQ : QT trm w) (hP : PL pt lo hi bo co act) (hn : n < 5) : ∃ pt' lo' hi' bo' co' act', f_X7_lowBound (Int32.ofNat (n + 1)) trm pt lo hi bo co act = some (.ok (lo' (n + 1)), pt', lo', hi', bo', co', act') ∧ (∀ i : Nat, i < 10 → pt' i = trm i) ∧ SOL pt' lo' hi' bo' co' act' ∧ PL pt' lo' hi' bo' co' act' ∧ TT (tI pt') := by
  obtain ⟨hT, hX⟩ := QT_TT hQ
  obtain ⟨p1, p2, p3, p4, p5⟩ := per_ok hn
  obtain ⟨pt', lo', hi', bo', co', act', s1, s2, s3, s4, s5⟩ := s_solve hP hT
  refine ⟨pt', lo', hi', bo', co', act', ?_, s2, s3, s4, s5⟩
  unfold f_X7_lowBound
  rw [n_range, if_pos ⟨p1, p2⟩, bnd1_s, mxo, s1, bnd6_s, gd_6 p3 p4, p5]
theorem a_high (h : ∀ i : Nat, i < 10 → pt i = trm i) (hn : n < 5) : f_X7_highBound (Int32.ofNat (n + 1)) trm pt lo hi bo co act = some (.ok (hi (n + 1)), pt, lo, hi, bo, co, act) := by
  obtain ⟨p1, p2, p3, p4, p5⟩ := per_ok hn
  unfold f_X7_highBound
  rw [n_range, if_pos ⟨p1, p2⟩, bnd1_s, mxo, solve_same h, bnd6_s, gd_6 p3 p4, p5]
theorem a_best (h : ∀ i : Nat, i < 10 → pt i = trm i) (hT : TT (tI pt)) (hn : n < 5) {v : Int32} (v0 : -20 ≤ v) (v1 : v ≤ trm 9) : f_X7_bestAct (Int32.ofNat (n + 1)) v trm pt lo hi bo co act = some (.ok (act (cl (n + 1) v.toInt)), pt, lo, hi, bo, co, act) := by
  obtain ⟨p1, p2, p3, p4, p5⟩ := per_ok hn
  have k9 : trm (9 : Int32).toNatClampNeg = trm 9 := rfl
  have c01 : tI pt 9 ≤ 20 := by obtain ⟨-, -, -, -, -, -, -, -, -, -, c0, c1⟩ := hT; exact c1
  have e9 : tI pt 9 = (trm 9).toInt := by show (pt 9).toInt = _; rw [h 9 (by omega)]
  have w0 : -20 ≤ v.toInt := i_le.mp v0
  have w1 := i_le.mp v1
  obtain ⟨k1, k2, k3, k4⟩ := cl_rng (n := n + 1) (y := v.toInt) (by omega) (by omega) (by omega)
  unfold f_X7_bestAct
  rw [n_range, if_pos ⟨p1, p2⟩, bnd1_s, mxo, gd_10 (by decide) (by decide), n_range, k9, if_pos ⟨v0, v1⟩, bnd1_s, mxo, solve_same h, bnd6_s, n_cell (by omega) (by omega) (by omega), bnd1_s, gd_366 k2 k3, k1]
theorem a_cost (h : ∀ i : Nat, i < 10 → pt i = trm i) (hT : TT (tI pt)) (hS : SOL pt lo hi bo co act) (hn : n < 5) {v : Int32} (v0 : -20 ≤ v) (v1 : v ≤ trm 9) : ∃ g : Int64, 1 ≤ g.toInt ∧ g.toInt ∣ pl (tI pt) (n + 1) v.toInt ∧ g.toInt ∣ Sc (tI pt) (n + 1) ∧ (co (cl (n + 1) v.toInt) / g).toInt = pl (tI pt) (n + 1) v.toInt / g.toInt ∧ (bo (n + 1) / g).toInt = Sc (tI pt) (n + 1) / g.toInt ∧ ∀ v3 : Int32, f_X7_planCost (Int32.ofNat (n + 1)) v v3 trm pt lo hi bo co act = some (.ok (if v3 = 0 then co (cl (n + 1) v.toInt) / g else bo (n + 1) / g), pt, lo, hi, bo, co, act) := by
  obtain ⟨p1, p2, p3, p4, p5⟩ := per_ok hn
  have k9 : trm (9 : Int32).toNatClampNeg = trm 9 := rfl
  have c01 : tI pt 9 ≤ 20 := by obtain ⟨-, -, -, -, -, -, -, -, -, -, c0, c1⟩ := hT; exact c1
  have e9 : tI pt 9 = (trm 9).toInt := by show (pt 9).toInt = _; rw [h 9 (by omega)]
  have w0 : -20 ≤ v.toInt := i_le.mp v0
  have w1 := i_le.mp v1
  have l0 : lw (n + 1) ≤ -20 := by unfold lw; omega
  have z0 : (0 : Int64).toInt = 0 := rfl
  obtain ⟨k1, k2, k3, k4⟩ := cl_rng (n := n + 1) (y := v.toInt) (by omega) (by omega) (by omega)
  have q1 := ((hS.2 n hn).1 v.toInt (by omega) (by omega)).1
  have q3 := hS.1 (n + 1) (by omega)
  have rg := pl_rng hT (n + 1) (by omega) v.toInt (by omega) (by omega)
  have S1 := Sc_le hT (n := n + 1) (by omega)
  have b1 : pl (tI pt) (n + 1) v.toInt ≤ 12000 * 184528125 := by
    have a1 : 2400 * ((n + 1 : Nat) : Int) ≤ 12000 := by omega
    have a2 := Int.mul_le_mul_of_nonneg_right a1 (show 0 ≤ Sc (tI pt) (n + 1) by omega)
    omega
  have b2 : pl (tI pt) (n + 1) v.toInt * Sc (tI pt) (n + 1) < 2 ^ 99 := by
    have := Int.mul_le_mul b1 S1.2 (by omega) (by omega)
    have e : (12000 * 184528125 * 184528125 : Int) < 2 ^ 99 := by decide
    omega
  obtain ⟨g, g1, g2, g3, g4⟩ := c_gcd (x := co (cl (n + 1) v.toInt)) (y := bo (n + 1)) (by rw [q1]; exact rg.1) (by rw [q3]; exact S1.1) (by rw [q1, q3]; exact b2)
  have gn : g ≠ 0 := fun e => by rw [e, z0] at g2; omega
  have gzz : ∀ {α : Type} {t : Option α}, gz g t = t := by
    intro α t
    unfold gz
    rw [if_neg (by simpa using gn)]
  have nz : ¬ lg_cmp g 0 = 0 := fun y => by
    have := lg_lt.2.2.mp y
    rw [z0] at this
    omega
  refine ⟨g, g2, by rw [← q1]; exact g3, by rw [← q3]; exact g4, by rw [i64_quo (by rw [q1]; exact rg.1), q1], by rw [i64_quo (by rw [q3]; omega), q3], fun v3 => ?_⟩
  unfold f_X7_planCost
  rw [n_range, if_pos ⟨p1, p2⟩, bnd1_s, mxo, gd_10 (by decide) (by decide), n_range, k9, if_pos ⟨v0, v1⟩, bnd1_s, mxo, solve_same h, bnd6_s, n_cell (by omega) (by omega) (by omega), bnd1_s, gd_366 k2 k3, gd_6 p3 p4, k1, p5, g1, bnd1_s, if_neg nz, gzz, gzz]
  by_cases h3 : v3 = 0
  · rw [if_pos h3, if_pos h3]
  · rw [if_neg h3, if_neg h3]
/-- the low bound isn't above the high one -/
theorem lo_hi {t : Nat → Int} (hT : TT t) (hn : n < 5) {l : Int} (hl : LW t n (-20) l) : l ≤ tg (Gg t n (pl t n)) (t 9) (t 9 + 20).toNat := by
  have c0 : 0 ≤ t 9 := by obtain ⟨-, -, -, -, -, -, -, -, -, -, c0, c1⟩ := hT; exact c0
  have LS := tg_LA (G := Gg t n (pl t n)) (cap := t 9) (t 9 + 20).toNat
  rw [show t 9 - ((t 9 + 20).toNat : Int) = -20 by omega] at LS
  have B := fun y y0 y1 => by_bounds hT hn (y := y) hl y0 y1
  generalize tg (Gg t n (pl t n)) (t 9) (t 9 + 20).toNat = S at LS B
  apply Classical.byContradiction
  intro z
  have zl : S < l := by omega
  obtain ⟨s1, s2, -⟩ := LS
  have b := B S s1 s2
  rw [if_pos zl] at b
  have o := hl.2.2.2 S s1 zl
  have e : ac t n S = tg (Gg t n (pl t n)) (t 9) (t 9 - S - 1).toNat := by unfold ac; rw [if_pos o]
  have r := (tg_LA (G := Gg t n (pl t n)) (cap := t 9) (t 9 - S - 1).toNat).1
  have h9 := o.1
  rw [e] at b
  omega
/-- where it is ordered at both levels, the costs lie a piece apart -/
theorem cost_gap {t : Nat → Int} (hT : TT t) (hn : n < 5) {l : Int} (hl : LW t n (-20) l) (h1 : ac t n (-20) ≠ -20) (h2 : ac t n (-19) ≠ -19) : pl t (n + 1) (-20) - pl t (n + 1) (-19) = t 6 * Sc t (n + 1) := by
  have c0 : 0 ≤ t 9 := by obtain ⟨-, -, -, -, -, -, -, -, -, -, c0, c1⟩ := hT; exact c0
  have B1 := by_bounds hT hn (y := -20) hl (by omega) (by omega)
  have B2 := by_bounds hT hn (y := -19) hl (by omega) (by omega)
  have o1 : isO t n (pl t n) (-20) := by
    apply Classical.byContradiction
    intro z
    exact h1 (by unfold ac; rw [if_neg z])
  have o2 : isO t n (pl t n) (-19) := by
    apply Classical.byContradiction
    intro z
    exact h2 (by unfold ac; rw [if_neg z])
  have e1 : tg (Gg t n (pl t n)) (t 9) (t 9 - -20 - 1).toNat = tg (Gg t n (pl t n)) (t 9) (t 9 + 20).toNat := by
    have : ac t n (-20) = tg (Gg t n (pl t n)) (t 9) (t 9 - -20 - 1).toNat := by unfold ac; rw [if_pos o1]
    rw [← this, B1]
    split
    · rfl
    · rename_i z; rw [if_neg z] at B1; exact absurd B1 h1
  have e2 : tg (Gg t n (pl t n)) (t 9) (t 9 - -19 - 1).toNat = tg (Gg t n (pl t n)) (t 9) (t 9 + 20).toNat := by
    have : ac t n (-19) = tg (Gg t n (pl t n)) (t 9) (t 9 - -19 - 1).toNat := by unfold ac; rw [if_pos o2]
    rw [← this, B2]
    split
    · rfl
    · rename_i z; rw [if_neg z] at B2; exact absurd B2 h2
  have p1 : pl t (n + 1) (-20) = orI t n (pl t n) (-20) := if_pos o1
  have p2 : pl t (n + 1) (-19) = orI t n (pl t n) (-19) := if_pos o2
  rw [p1, p2]
  unfold orI
  rw [e1, e2]
  omega
end PLAN
/-- the fractions in lowest terms -/
theorem frac {C D S u g h a b c d : Int} (hg : 1 ≤ g) (hh : 1 ≤ h) (gap : C - D = u * S) (e1 : C = g * a) (e2 : S = g * b) (e3 : D = h * c) (e4 : S = h * d) : a * d - c * b = u * d * b := by
  have k : g * h * (a * d - c * b) = g * h * (u * d * b) := by
    have x1 : g * h * (a * d - c * b) = (g * a) * (h * d) - (h * c) * (g * b) := by grind
    have x2 : g * h * (u * d * b) = u * (h * d) * (g * b) := by grind
    rw [x1, x2, ← e1, ← e2, ← e3, ← e4]
    have : C * S - D * S = (C - D) * S := (Int.sub_mul _ _ _).symm
    rw [this, gap]
  have p : 0 < g * h := Int.mul_pos (by omega) (by omega)
  exact Int.eq_of_mul_eq_mul_left (by omega) k
theorem JV.pl {tod : Int32} {prods : Int32} {icnt : Int32} {itm : Nat → Int32} {bks : Nat → Int32} {trm : Nat → Int32} {lan : Int32} {pos : Int32} {rom : Int32} {gp : Int32} {plc : Int32} {pkd : Int64} {plot : Nat → Int32} {ppc : Nat → Int32} {pmk : Nat → Int32} {pbd : Nat → Int32} {lcn : Int32} {lpr : Nat → Int32} {lla : Nat → Int32} {lco : Nat → Int32} {lst : Nat → Int32} {lbl : Nat → Int32} {ocn : Int32} {gif : Int32} {ocu : Nat → Int32} {opr : Nat → Int32} {oop : Nat → Int32} {odu : Nat → Int32} {oli : Nat → Int32} {obd : Nat → Int32} {oha : Nat → Int32} {ost : Nat → Int32} {acts : Int32} {ns : Int32} {hk : Nat} {st : Nat → StT} {pt : Nat → Int32} {lo : Nat → Int32} {hi : Nat → Int32} {bo : Nat → Int64} {co : Nat → Int64} {ac : Nat → Int32} {pt' lo' hi' ac' : Nat → Int32} {bo' co' : Nat → Int64} (h : JV (tod, prods, icnt, itm, bks, trm, lan, pos, rom, gp, plc, pkd, plot, ppc, pmk, pbd, lcn, lpr, lla, lco, lst, lbl, ocn, gif, ocu, opr, oop, odu, oli, obd, oha, ost) acts ns hk st pt lo hi bo co ac) (hp : PL pt' lo' hi' bo' co' ac') : JV (tod, prods, icnt, itm, bks, trm, lan, pos, rom, gp, plc, pkd, plot, ppc, pmk, pbd, lcn, lpr, lla, lco, lst, lbl, ocn, gif, ocu, opr, oop, odu, oli, obd, oha, ost) acts ns hk st pt' lo' hi' bo' co' ac' := by
  obtain ⟨w, near, undos, eldest, kept, h1, h2, h3, h4⟩ := h
  exact ⟨w, near, undos, eldest, kept, h1, h2, h3, hp⟩
theorem t_pl1 {ac : Nat → Int32} {acts : Int32} {bks : Nat → Int32} {bo : Nat → Int64} {co : Nat → Int64} {gif : Int32} {gp : Int32} {hi : Nat → Int32} {hk : Nat} {icnt : Int32} {itm : Nat → Int32} {lan : Int32} {lbl : Nat → Int32} {lcn : Int32} {lco : Nat → Int32} {lla : Nat → Int32} {lo : Nat → Int32} {lpr : Nat → Int32} {lst : Nat → Int32} {n1 : Int32} {n2 : Int32} {ns : Int32} {obd : Nat → Int32} {ocn : Int32} {ocu : Nat → Int32} {odu : Nat → Int32} {oha : Nat → Int32} {oli : Nat → Int32} {oop : Nat → Int32} {opr : Nat → Int32} {ost : Nat → Int32} {pbd : Nat → Int32} {pkd : Int64} {plc : Int32} {plot : Nat → Int32} {pmk : Nat → Int32} {pos : Int32} {ppc : Nat → Int32} {prods : Int32} {pt : Nat → Int32} {rom : Int32} {st : Nat → StT} {tod : Int32} {trm : Nat → Int32} {x : Int32} {n : Nat} (h : ∀ i : Nat, i < 10 → pt i = trm i) (hT : TT (tI pt)) (hS : SOL pt lo hi bo co ac) (hn : n < 5) (h2 : n2 = trm 9) (h3 : n2 ≤ 12) : ∃ e, loop (fun z : Int32 × (Nat → Int32) × (Nat → Int32) × (Nat → Int32) × (Nat → Int64) × (Nat → Int64) × (Nat → Int32) => f_L_isPlanned_L182 n1 n2 (Int32.ofNat (n + 1)) (lo (n + 1)) (hi (n + 1)) acts ns hk st tod prods icnt itm bks trm lan pos rom gp plc pkd plot ppc pmk pbd lcn lpr lla lco lst lbl ocn gif ocu opr oop odu oli obd oha ost x z.1 z.2.1 z.2.2.1 z.2.2.2.1 z.2.2.2.2.1 z.2.2.2.2.2.1 z.2.2.2.2.2.2) 40 (-20, pt, lo, hi, bo, co, ac) = some e ∧ (e = .inr (pt, lo, hi, bo, co, ac)) := by
  have c0 : 0 ≤ tI pt 9 := by obtain ⟨-, -, -, -, -, -, -, -, -, -, c0, c1⟩ := hT; exact c0
  have e9 : tI pt 9 = n2.toInt := by show (pt 9).toInt = _; rw [h 9 (by omega), h2]
  have h3' := i_le.mp h3
  rw [show (12 : Int32).toInt = 12 from rfl] at h3'
  have i20 : (-20 : Int32).toInt = -20 := rfl
  obtain ⟨q1, q2, q3⟩ := hS.2 n hn
  have lk : lw (n + 1) ≤ -20 := by unfold lw; omega
  refine lp_one (f := fun z : Int32 × (Nat → Int32) × (Nat → Int32) × (Nat → Int32) × (Nat → Int64) × (Nat → Int64) × (Nat → Int32) => f_L_isPlanned_L182 n1 n2 (Int32.ofNat (n + 1)) (lo (n + 1)) (hi (n + 1)) acts ns hk st tod prods icnt itm bks trm lan pos rom gp plc pkd plot ppc pmk pbd lcn lpr lla lco lst lbl ocn gif ocu opr oop odu oli obd oha ost x z.1 z.2.1 z.2.2.1 z.2.2.2.1 z.2.2.2.2.1 z.2.2.2.2.2.1 z.2.2.2.2.2.2) (fun z => -20 ≤ z.1.toInt ∧ z.1.toInt ≤ n2.toInt + 1 ∧ pt = z.2.1 ∧ lo = z.2.2.1 ∧ hi = z.2.2.2.1 ∧ bo = z.2.2.2.2.1 ∧ co = z.2.2.2.2.2.1 ∧ ac = z.2.2.2.2.2.2) (fun e => e = .inr (pt, lo, hi, bo, co, ac)) (fun z => (n2.toInt + 1 - z.1.toInt).toNat) ?_ 40 (-20, pt, lo, hi, bo, co, ac) ⟨by dsimp only; rw [i20]; omega, by dsimp only; rw [i20]; omega, rfl, rfl, rfl, rfl, rfl, rfl⟩ (by dsimp only; rw [i20]; omega)
  rintro ⟨y, pt2, lo2, hi2, bo2, co2, ac2⟩ ⟨g1, g2, g3, g4, g5, g6, g7, g8⟩
  dsimp only at g1 g2 g3 g4 g5 g6 g7 g8 ⊢
  subst g3 g4 g5 g6 g7 g8
  unfold f_L_isPlanned_L182
  by_cases hy : n2 < y
  · exact Or.inr ⟨_, by rw [if_pos hy], rfl⟩
  · left
    have hy2 : y.toInt ≤ n2.toInt := i_le.mp (Int32.not_lt.mp hy)
    have ev1 : (y + 1).toInt = y.toInt + 1 := i_inc (by omega)
    have B := by_bounds hT hn q2 g1 (show y.toInt ≤ tI pt 9 by omega)
    have A := (q1 y.toInt (by omega) (by omega)).2
    refine ⟨(y + 1, pt, lo, hi, bo, co, ac), ?_, ⟨by dsimp only; omega, by dsimp only; omega, rfl, rfl, rfl, rfl, rfl, rfl⟩, by dsimp only; omega⟩
    rw [if_neg hy, a_best h hT hn (by rw [i_le, i20]; exact g1) (by rw [← h2]; exact Int32.not_lt.mp hy), bnd7_s, mxo]
    by_cases hl : lo (n + 1) ≤ y
    · rw [if_pos hl]
      rw [i_le] at hl
      rw [if_neg (by omega)] at B
      unfold f_L_isPlanned_L182_J213
      rw [if_pos (show ac (cl (n + 1) y.toInt) = y by rw [i_eq, A, B])]
    · rw [if_neg hl]
      rw [i_le] at hl
      rw [if_pos (by omega)] at B
      unfold f_L_isPlanned_L182_J213
      rw [if_pos (show ac (cl (n + 1) y.toInt) = hi (n + 1) by rw [i_eq, A, B, q3])]
set_option maxRecDepth 8000 in
theorem t_pl2 {tod : Int32} {prods : Int32} {icnt : Int32} {itm : Nat → Int32} {bks : Nat → Int32} {trm : Nat → Int32} {lan : Int32} {pos : Int32} {rom : Int32} {gp : Int32} {plc : Int32} {pkd : Int64} {plot : Nat → Int32} {ppc : Nat → Int32} {pmk : Nat → Int32} {pbd : Nat → Int32} {lcn : Int32} {lpr : Nat → Int32} {lla : Nat → Int32} {lco : Nat → Int32} {lst : Nat → Int32} {lbl : Nat → Int32} {ocn : Int32} {gif : Int32} {ocu : Nat → Int32} {opr : Nat → Int32} {oop : Nat → Int32} {odu : Nat → Int32} {oli : Nat → Int32} {obd : Nat → Int32} {oha : Nat → Int32} {ost : Nat → Int32} {acts : Int32} {ns : Int32} {hk : Nat} {st : Nat → StT} {pt : Nat → Int32} {lo : Nat → Int32} {hi : Nat → Int32} {bo : Nat → Int64} {co : Nat → Int64} {ac : Nat → Int32} {n1 : Int32} {n5 : Int32} {n6 : Int32} {n7 : Int64} {t0 : Int32} {x : Int32} (hJ : JV (tod, prods, icnt, itm, bks, trm, lan, pos, rom, gp, plc, pkd, plot, ppc, pmk, pbd, lcn, lpr, lla, lco, lst, lbl, ocn, gif, ocu, opr, oop, odu, oli, obd, oha, ost) acts ns hk st pt lo hi bo co ac) (hlh : n5 ≤ n6) (hc : t0 = 0 ∨ ∃ g e : Int64, (∀ v3 : Int32, f_X7_planCost 1 (-20) v3 trm pt lo hi bo co ac = some (.ok (if v3 = 0 then co (cl 1 (-20)) / g else bo 1 / g), pt, lo, hi, bo, co, ac)) ∧ (∀ v3 : Int32, f_X7_planCost 1 (-19) v3 trm pt lo hi bo co ac = some (.ok (if v3 = 0 then co (cl 1 (-19)) / e else bo 1 / e), pt, lo, hi, bo, co, ac)) ∧ n7.toInt = (n1.toInt64 * (bo 1 / e) * (bo 1 / g)).toInt) : Gs (f_L_isPlanned_J330 n1 n5 n6 n7 t0 acts ns hk st tod prods icnt itm bks trm lan pos rom gp plc pkd plot ppc pmk pbd lcn lpr lla lco lst lbl ocn gif ocu opr oop odu oli obd oha ost pt lo hi bo co ac x) (fun o => o.1 = 1 ∧ JV (tod, prods, icnt, itm, bks, o.2.2.2.2.2.1, lan, pos, rom, gp, plc, pkd, plot, ppc, pmk, pbd, lcn, lpr, lla, lco, lst, lbl, ocn, gif, ocu, opr, oop, odu, oli, obd, oha, ost) o.2.1 o.2.2.1 o.2.2.2.1 o.2.2.2.2.1 o.2.2.2.2.2.2.1 o.2.2.2.2.2.2.2.1 o.2.2.2.2.2.2.2.2.1 o.2.2.2.2.2.2.2.2.2.1 o.2.2.2.2.2.2.2.2.2.2.1 o.2.2.2.2.2.2.2.2.2.2.2.1) := by
  unfold f_L_isPlanned_J330
  refine gs_e (Int32.not_lt.mpr hlh) ?_
  rcases hc with c | ⟨g, e, c1, c2, c3⟩
  · refine gs_t c ?_
    unfold f_L_isPlanned_J376
    exact gs_i ⟨rfl, hJ⟩
  · by_cases c : t0 = 0
    · refine gs_t c ?_
      unfold f_L_isPlanned_J376
      exact gs_i ⟨rfl, hJ⟩
    · refine gs_e c (gs_b7 (c2 1) (gs_ok (gs_b7 (c1 1) (gs_ok ?_))))
      rw [if_neg one_ne, if_neg one_ne]
      refine gs_t (lg_lt.2.2.mpr c3) ?_
      unfold f_L_isPlanned_J376
      exact gs_i ⟨rfl, hJ⟩
set_option maxHeartbeats 2000000 in
set_option maxRecDepth 8000 in
theorem t_pl3 {tod : Int32} {prods : Int32} {icnt : Int32} {itm : Nat → Int32} {bks : Nat → Int32} {trm : Nat → Int32} {lan : Int32} {pos : Int32} {rom : Int32} {gp : Int32} {plc : Int32} {pkd : Int64} {plot : Nat → Int32} {ppc : Nat → Int32} {pmk : Nat → Int32} {pbd : Nat → Int32} {lcn : Int32} {lpr : Nat → Int32} {lla : Nat → Int32} {lco : Nat → Int32} {lst : Nat → Int32} {lbl : Nat → Int32} {ocn : Int32} {gif : Int32} {ocu : Nat → Int32} {opr : Nat → Int32} {oop : Nat → Int32} {odu : Nat → Int32} {oli : Nat → Int32} {obd : Nat → Int32} {oha : Nat → Int32} {ost : Nat → Int32} {acts : Int32} {ns : Int32} {hk : Nat} {st : Nat → StT} {pt : Nat → Int32} {lo : Nat → Int32} {hi : Nat → Int32} {bo : Nat → Int64} {co : Nat → Int64} {ac : Nat → Int32} {n1 : Int32} {n2 : Int32} {t0 : Int32} {x : Int32} (hJ : JV (tod, prods, icnt, itm, bks, trm, lan, pos, rom, gp, plc, pkd, plot, ppc, pmk, pbd, lcn, lpr, lla, lco, lst, lbl, ocn, gif, ocu, opr, oop, odu, oli, obd, oha, ost) acts ns hk st pt lo hi bo co ac) (a0 : 0 ≤ n1) (a1 : n1 < 6) (b0 : 0 ≤ n2) (b1 : n2 < 13) (c0 : 0 ≤ t0) (c1 : t0 < 100) : Gs (f_L_isPlanned_J52 n1 n2 t0 acts ns hk st tod prods icnt itm bks trm lan pos rom gp plc pkd plot ppc pmk pbd lcn lpr lla lco lst lbl ocn gif ocu opr oop odu oli obd oha ost pt lo hi bo co ac x) (fun o => o.1 = 1 ∧ JV (tod, prods, icnt, itm, bks, o.2.2.2.2.2.1, lan, pos, rom, gp, plc, pkd, plot, ppc, pmk, pbd, lcn, lpr, lla, lco, lst, lbl, ocn, gif, ocu, opr, oop, odu, oli, obd, oha, ost) o.2.1 o.2.2.1 o.2.2.2.1 o.2.2.2.2.1 o.2.2.2.2.2.2.1 o.2.2.2.2.2.2.2.1 o.2.2.2.2.2.2.2.2.1 o.2.2.2.2.2.2.2.2.2.1 o.2.2.2.2.2.2.2.2.2.2.1 o.2.2.2.2.2.2.2.2.2.2.2.1) := by
  unfold f_L_isPlanned_J52
  obtain ⟨v1, x1, y1, u1, w1⟩ := t_next (n := 5) (x := x) (by decide)
  refine gs_b2 y1 ?_
  obtain ⟨v2, x2, y2, u2, w2⟩ := t_next (n := 5) (x := x1) (by decide)
  refine gs_b2 y2 ?_
  obtain ⟨v3, x3, y3, u3, w3⟩ := t_next (n := 5) (x := x2) (by decide)
  refine gs_b2 y3 ?_
  obtain ⟨v4, x4, y4, u4, w4⟩ := t_next (n := 4) (x := x3) (by decide)
  refine gs_b2 y4 ?_
  obtain ⟨v5, x5, y5, u5, w5⟩ := t_next (n := 5) (x := x4) (by decide)
  refine gs_b2 y5 ?_
  obtain ⟨r, b_acts, b_ns, b_hk, b_st, b_trm, hx, hJ1⟩ := iv_setWants v1 v2 v3 (1 + v4) v5 hJ
  have sm : 1 ≤ v1 + v2 + v3 + (1 + v4) + v5 := by clear hJ hJ1 hx; grind
  obtain ⟨e1, e2⟩ := x_setWants u1 (by clear hJ hJ1 hx; grind) u2 (by clear hJ hJ1 hx; grind) u3 (by clear hJ hJ1 hx; grind) (by clear hJ hJ1 hx; grind) (by clear hJ hJ1 hx; grind) u5 (by clear hJ hJ1 hx; grind) (by intro z; rw [z] at sm; exact absurd sm (by decide)) hx
  subst e1
  refine gs_b6 hx (gs_ok (gs_t sm ?_))
  obtain ⟨v6, x6, y6, u6, w6⟩ := t_next (n := 5) (x := x5) (by decide)
  refine gs_b2 y6 ?_
  obtain ⟨v7, x7, y7, u7, w7⟩ := t_next (n := 12) (x := x6) (by decide)
  refine gs_b2 y7 ?_
  obtain ⟨r, c_acts, c_ns, c_hk, c_st, c_trm, hx2, hJ2⟩ := iv_setCosts t0 n1 v6 (n1 + 1 + v7) n2 hJ1
  obtain ⟨e3, e4⟩ := x_setCosts c0 (by clear hJ hJ1 hJ2 hx hx2; grind) a0 (by clear hJ hJ1 hJ2 hx hx2; grind) u6 (by clear hJ hJ1 hJ2 hx hx2; grind) (by clear hJ hJ1 hJ2 hx hx2; grind) (by clear hJ hJ1 hJ2 hx hx2; grind) b0 (by clear hJ hJ1 hJ2 hx hx2; grind) hx2
  subst e3
  obtain ⟨wa, na, ⟨-, -, -, -, -, -, -, -, -, -, -, -, hTa, -, -⟩, -, -⟩ := hJ1.ex
  have t9 : 0 ≤ b_trm 9 := by obtain ⟨-, -, -, -, -, -, -, -, -, -, -, -, -, -, -, z, -⟩ := hTa; exact z
  refine gs_b6 hx2 (gs_ok (gs_t t9 ?_))
  obtain ⟨v8, x8, y8, u8, w8⟩ := t_next (n := 5) (x := x7) (by decide)
  refine gs_b2 y8 ?_
  obtain ⟨wb, nb, ⟨-, -, -, -, -, -, -, -, -, -, -, -, hQ, -, -⟩, -, hPL⟩ := hJ2.ex
  have d9 : c_trm 9 = n2 := by rw [e4]; rfl
  have d6 : c_trm 6 = n1 := by rw [e4]; rfl
  clear hJ hJ1 hx hx2 e4 hTa
  obtain ⟨n, hn, en⟩ := v_per (v := 1 + v8) ⟨by clear hJ2 hQ hPL; grind, by clear hJ2 hQ hPL; grind⟩
  rw [en]
  obtain ⟨pt', lo', hi', bo', co', ac', s1, s2, s3, s4, s5⟩ := a_low0 hQ hPL hn
  have hJ3 := hJ2.pl s4
  refine gs_b7 s1 (gs_ok (gs_b7 (a_high s2 hn) (gs_ok ?_)))
  refine gs_l (t_pl1 s2 s5 s3 hn d9.symm (by clear hJ2 hJ3 hQ hPL s1 s2 s3 s4 s5; grind)) ?_
  rintro e rfl
  refine gs_r ?_
  dsimp only
  obtain ⟨q1, q2, q3⟩ := s3.2 n hn
  have hlh : lo' (n + 1) ≤ hi' (n + 1) := by
    rw [i_le, q3]
    exact lo_hi s5 hn q2
  by_cases c : -20 < lo' (n + 1) - 1
  · refine gs_t c ?_
    have n9 : (0 : Int32) ≤ c_trm 9 := by rw [d9]; exact b0
    have m19 : (-19 : Int32) ≤ c_trm 9 := Int32.le_trans (by decide) n9
    have m20 : (-20 : Int32) ≤ c_trm 9 := Int32.le_trans (by decide) n9
    obtain ⟨g, g1, g2, g3, g4, g5, g6⟩ := a_cost (n := 0) (v := -20) s2 s5 s3 (by omega) (by decide) m20
    obtain ⟨f, f1, f2, f3, f4, f5, f6⟩ := a_cost (n := 0) (v := -19) s2 s5 s3 (by omega) (by decide) m19
    have p1 : Int32.ofNat (0 + 1) = 1 := rfl
    have i20 : (-20 : Int32).toInt = -20 := rfl
    have i19 : (-19 : Int32).toInt = -19 := rfl
    rw [p1, i20] at g6
    rw [p1, i19] at f6
    rw [i20] at g2 g4
    rw [i19] at f2 f4
    have k1 := a_best (n := 0) (v := -20) s2 s5 (lo := lo') (hi := hi') (bo := bo') (co := co') (act := ac') (by omega) (by decide) m20
    have k2 := a_best (n := 0) (v := -19) s2 s5 (lo := lo') (hi := hi') (bo := bo') (co := co') (act := ac') (by omega) (by decide) m19
    rw [p1, i20] at k1
    rw [p1, i19] at k2
    refine gs_b7 (g6 0) (gs_ok (gs_b7 (f6 1) (gs_ok (gs_b7 (f6 0) (gs_ok (gs_b7 (g6 1) (gs_ok (gs_b7 k1 (gs_ok ?_)))))))))
    by_cases r1 : ac' (cl (0 + 1) (-20)) = -20
    · refine gs_t r1 ?_
      unfold f_L_isPlanned_J329
      exact t_pl2 hJ3 hlh (Or.inl rfl)
    · refine gs_e r1 (gs_b7 k2 (gs_ok ?_))
      by_cases r2 : ac' (cl (0 + 1) (-19)) = -19
      · refine gs_t r2 ?_
        unfold f_L_isPlanned_J329
        exact t_pl2 hJ3 hlh (Or.inl rfl)
      · refine gs_e r2 (t_pl2 hJ3 hlh (Or.inr ⟨g, f, g6, f6, ?_⟩))
        obtain ⟨z1, z2, z3⟩ := s3.2 0 (by omega)
        have lk : lw (0 + 1) ≤ -20 := by unfold lw; omega
        have c9 : tI pt' 9 = n2.toInt := by show (pt' 9).toInt = _; rw [s2 9 (by omega), d9]
        have n20 := i_le.mp b0
        rw [show (0 : Int32).toInt = 0 from rfl] at n20
        have A1 := (z1 (-20) (by omega) (by omega)).2
        have A2 := (z1 (-19) (by omega) (by omega)).2
        have gap := cost_gap s5 (n := 0) (by omega) z2 (fun z => r1 (by rw [i_eq, A1, z]; rfl)) (fun z => r2 (by rw [i_eq, A2, z]; rfl))
        have t6 : tI pt' 6 = n1.toInt := by show (pt' 6).toInt = _; rw [s2 6 (by omega), d6]
        rw [t6] at gap
        have rg1 := pl_rng s5 (0 + 1) (by omega) (-20) (by omega) (by omega)
        have rg2 := pl_rng s5 (0 + 1) (by omega) (-19) (by omega) (by omega)
        have S1 := Sc_rng s5 (0 + 1) (by omega)
        rw [show (45 : Int) ^ (0 + 1) = 45 from rfl] at S1
        generalize pl (tI pt') (0 + 1) (-20) = C at g2 g4 gap rg1
        generalize pl (tI pt') (0 + 1) (-19) = D at f2 f4 gap rg2
        generalize Sc (tI pt') (0 + 1) = K at g3 g5 f3 f5 gap rg1 rg2 S1
        obtain ⟨a, ea⟩ := g2
        obtain ⟨b, eb⟩ := g3
        obtain ⟨cc, ec⟩ := f2
        obtain ⟨dd, ed⟩ := f3
        have fr := frac g1 f1 gap ea eb ec ed
        rw [ea, Int.mul_ediv_cancel_left _ (by omega)] at g4
        rw [eb, Int.mul_ediv_cancel_left _ (by omega)] at g5
        rw [ec, Int.mul_ediv_cancel_left _ (by omega)] at f4
        rw [ed, Int.mul_ediv_cancel_left _ (by omega)] at f5
        have bound : ∀ {G x X : Int}, 1 ≤ G → X = G * x → 0 ≤ X → X ≤ 108000 → 0 ≤ x ∧ x ≤ 108000 := by
          intro G x X hG hX h0 h1
          have x0 : 0 ≤ x := by
            apply Classical.byContradiction
            intro z
            have := Int.mul_le_mul_of_nonneg_left (show x ≤ -1 by omega) (show 0 ≤ G by omega)
            omega
          have := Int.mul_le_mul_of_nonneg_right hG x0
          omega
        have kb : ((0 + 1 : Nat) : Int) = 1 := rfl
        rw [kb] at rg1 rg2
        have ba := bound g1 ea rg1.1 (by omega)
        have bb := bound g1 eb (by omega) (by omega)
        have bc := bound f1 ec rg2.1 (by omega)
        have bd := bound f1 ed (by omega) (by omega)
        have lim : ∀ {x y : Int}, 0 ≤ x → x ≤ 108000 → 0 ≤ y → y ≤ 108000 → 0 ≤ x * y ∧ x * y ≤ 11664000000 := by
          intro x y x0 x1 y0 y1
          exact ⟨Int.mul_nonneg x0 y0, Int.le_trans (Int.mul_le_mul x1 y1 y0 (by omega)) (by decide)⟩
        have l1 := lim ba.1 ba.2 bd.1 bd.2
        have l2 := lim bc.1 bc.2 bb.1 bb.2
        have nu : 0 ≤ n1.toInt ∧ n1.toInt ≤ 6 := by
          have x := i_le.mp a0
          have y := i_lt.mp a1
          rw [show (0 : Int32).toInt = 0 from rfl] at x
          rw [show (6 : Int32).toInt = 6 from rfl] at y
          exact ⟨x, by omega⟩
        have l3 := lim nu.1 (by omega) bd.1 bd.2
        have l3' : n1.toInt * dd ≤ 6 * 108000 := Int.mul_le_mul nu.2 bd.2 bd.1 (by omega)
        have l4 : 0 ≤ n1.toInt * dd * b ∧ n1.toInt * dd * b ≤ 648000 * 108000 := ⟨Int.mul_nonneg l3.1 bb.1, Int.mul_le_mul (by omega) bb.2 bb.1 (by omega)⟩
        have nl : n1.toInt64.toInt = n1.toInt := i64_of
        rw [if_pos rfl, if_neg one_ne, if_pos rfl, if_neg one_ne]
        have m1 : (co' (cl (0 + 1) (-20)) / g * (bo' (0 + 1) / f)).toInt = a * dd := by rw [fb_mulL (by rw [g4, f5]; omega) (by rw [g4, f5]; omega), g4, f5]
        have m2 : (co' (cl (0 + 1) (-19)) / f * (bo' (0 + 1) / g)).toInt = cc * b := by rw [fb_mulL (by rw [f4, g5]; omega) (by rw [f4, g5]; omega), f4, g5]
        have m3 : (n1.toInt64 * (bo' (0 + 1) / f)).toInt = n1.toInt * dd := by rw [fb_mulL (by rw [nl, f5]; omega) (by rw [nl, f5]; omega), nl, f5]
        have m4 : (n1.toInt64 * (bo' (0 + 1) / f) * (bo' (0 + 1) / g)).toInt = n1.toInt * dd * b := by rw [fb_mulL (by rw [m3, g5]; omega) (by rw [m3, g5]; omega), m3, g5]
        have m5 : (co' (cl (0 + 1) (-20)) / g * (bo' (0 + 1) / f) - co' (cl (0 + 1) (-19)) / f * (bo' (0 + 1) / g)).toInt = a * dd - cc * b := by rw [fb_subL (by rw [m1, m2]; omega) (by rw [m1, m2]; omega), m1, m2]
        exact m5.trans (fr.trans m4.symm)
  · exact gs_e c (gs_e (Int32.not_lt.mpr hlh) (gs_i ⟨rfl, hJ3⟩))
set_option maxRecDepth 8000 in
theorem t_planned {tod : Int32} {prods : Int32} {icnt : Int32} {itm : Nat → Int32} {bks : Nat → Int32} {trm : Nat → Int32} {lan : Int32} {pos : Int32} {rom : Int32} {gp : Int32} {plc : Int32} {pkd : Int64} {plot : Nat → Int32} {ppc : Nat → Int32} {pmk : Nat → Int32} {pbd : Nat → Int32} {lcn : Int32} {lpr : Nat → Int32} {lla : Nat → Int32} {lco : Nat → Int32} {lst : Nat → Int32} {lbl : Nat → Int32} {ocn : Int32} {gif : Int32} {ocu : Nat → Int32} {opr : Nat → Int32} {oop : Nat → Int32} {odu : Nat → Int32} {oli : Nat → Int32} {obd : Nat → Int32} {oha : Nat → Int32} {ost : Nat → Int32} {acts : Int32} {ns : Int32} {hk : Nat} {st : Nat → StT} {pt : Nat → Int32} {lo : Nat → Int32} {hi : Nat → Int32} {bo : Nat → Int64} {co : Nat → Int64} {ac : Nat → Int32} {x : Int32} (hJ : JV (tod, prods, icnt, itm, bks, trm, lan, pos, rom, gp, plc, pkd, plot, ppc, pmk, pbd, lcn, lpr, lla, lco, lst, lbl, ocn, gif, ocu, opr, oop, odu, oli, obd, oha, ost) acts ns hk st pt lo hi bo co ac) : Gs (f_L_isPlanned acts ns hk st tod prods icnt itm bks trm lan pos rom gp plc pkd plot ppc pmk pbd lcn lpr lla lco lst lbl ocn gif ocu opr oop odu oli obd oha ost pt lo hi bo co ac x) (fun o => o.1 = 1 ∧ JV (tod, prods, icnt, itm, bks, o.2.2.2.2.2.1, lan, pos, rom, gp, plc, pkd, plot, ppc, pmk, pbd, lcn, lpr, lla, lco, lst, lbl, ocn, gif, ocu, opr, oop, odu, oli, obd, oha, ost) o.2.1 o.2.2.1 o.2.2.2.1 o.2.2.2.2.1 o.2.2.2.2.2.2.1 o.2.2.2.2.2.2.2.1 o.2.2.2.2.2.2.2.2.1 o.2.2.2.2.2.2.2.2.2.1 o.2.2.2.2.2.2.2.2.2.2.1 o.2.2.2.2.2.2.2.2.2.2.2.1) := by
  unfold f_L_isPlanned
  obtain ⟨v1, x1, y1, u1, w1⟩ := t_next (n := 6) (x := x) (by decide)
  refine gs_b2 y1 ?_
  obtain ⟨v2, x2, y2, u2, w2⟩ := t_next (n := 13) (x := x1) (by decide)
  refine gs_b2 y2 ?_
  obtain ⟨v3, x3, y3, u3, w3⟩ := t_next (n := 2) (x := x2) (by decide)
  refine gs_b2 y3 ?_
  by_cases c : v3 = 0
  · refine gs_t c ?_
    obtain ⟨v4, x4, y4, u4, w4⟩ := t_next (n := 12) (x := x3) (by decide)
    exact gs_b2 y4 (t_pl3 hJ u1 w1 u2 w2 u4 (Int32.lt_trans w4 (by decide)))
  · refine gs_e c ?_
    obtain ⟨v4, x4, y4, u4, w4⟩ := t_next (n := 100) (x := x3) (by decide)
    exact gs_b2 y4 (t_pl3 hJ u1 w1 u2 w2 u4 w4)
