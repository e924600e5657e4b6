/-! ===== the least way, tried out ===== -/
theorem of_or (a b : Nat) : Int32.ofNat a ||| Int32.ofNat b = Int32.ofNat (a ||| b) := by
  apply Int32.toBitVec_inj.mp
  simp
def lsL (F : Int32 → Int32 → Int32 → Option Int32) (n2 n3 n4 pos gap : Int32) (len : Nat) (c : Nat → Int32) (z : Int32 × Int32 × Int32) : Option ((Int32 × Int32 × Int32) ⊕ (Int32 × Int32)) :=
  (if (Int32.ofNat len) ≤ z.2.2 then some (.inr (z.1, z.2.1))
  else (if ((n2 >>> (z.2.2 &&& 31)) &&& 1) = 1 then some (.inl (z.1, z.2.1, z.2.2 + 1))
  else gd z.2.2 len (gz pos (gd z.2.2 len (gz pos (bnd1 (f_L_between n3 n4 ((c z.2.2.toNatClampNeg) / pos) (((c z.2.2.toNatClampNeg) - (c z.2.2.toNatClampNeg) / pos * pos) + 1) pos gap) (fun r7 =>
  (bnd1 (F (n2 ||| (1 <<< (z.2.2 &&& 31))) ((c z.2.2.toNatClampNeg) / pos) (((c z.2.2.toNatClampNeg) - (c z.2.2.toNatClampNeg) / pos * pos) + 1)) (fun r9 =>
  some (.inl (if (r7 + r9) < z.1 then (r7 + r9) else z.1, 0, z.2.2 + 1)))))))))))
def lsB (F : Int32 → Int32 → Int32 → Option Int32) (v2 v3 v4 pos gap : Int32) (len : Nat) (c : Nat → Int32) : Option Int32 :=
  (bnd2 (loop (lsL F v2 v3 v4 pos gap len c) fu (2147483647, 1, 0)) fun m12 m13 =>
  (if m13 = 0 then some m12
  else bnd1 (f_L_between v3 v4 0 0 pos gap) (fun r15 =>
  (some r15))))
/-- the points, by their places -/
def PTC (n q : Nat) (c : Nat → Int32) (pt : Nat → VX) : Prop := ∀ k, k < n → ∃ j, j < 48 ∧ c k = Int32.ofNat j ∧ pt k = (j / q, j % q + 1) ∧ j / q ≤ 6
def LV (F : Int32 → Int32 → Int32 → Option Int32) (n q G : Nat) (pt : Nat → VX) (j : Nat) : Prop := ∀ (s : Nat) (v : VX), s < 2 ^ n → v.1 ≤ 6 → v.2 ≤ q + 1 → n < j + sz (fun _ => 1) n s → ∃ r, F (Int32.ofNat s) (Int32.ofNat v.1) (Int32.ofNat v.2) = some r ∧ r.toInt ≤ 100 * ((n : Int) + 1 - sz (fun _ => 1) n s) ∧ BFP (q + 1) n G pt s v r.toInt
theorem lv_up {F : Int32 → Int32 → Int32 → Option Int32} {n q G j : Nat} {c : Nat → Int32} {pt : Nat → VX} (hn : n ≤ 10) (hq : 1 ≤ q) (hq8 : q ≤ 8) (hG : G ≤ 5) (hc : PTC n q c pt) (inj : ∀ j k, j < n → k < n → pt j = pt k → j = k) (hF : LV F n q G pt j) : LV (fun a b d => lsB F a b d (Int32.ofNat q) (Int32.ofNat G) n c) n q G pt (j + 1) := by
  rintro s ⟨vi, vp⟩ hs v1 v2 hj
  dsimp only at v1 v2 ⊢
  have two : 2 ^ n ≤ 1024 := Nat.pow_le_pow_right (n := 2) (by decide) hn
  have g0 : (0 : Int) ≤ (G : Int) := by omega
  have hp : ∀ k, k < n → (pt k).2 ≤ q + 1 := fun k hk => by
    obtain ⟨j, -, -, e, -⟩ := hc k hk
    have := Nat.mod_lt j (show 0 < q by omega)
    rw [e]; dsimp only; omega
  have qz : ∀ {α : Type} {t : Option α}, gz (Int32.ofNat q) t = t := by
    intro α t
    refine gz_ok (fun z => ?_)
    have := congrArg Int32.toInt z
    rw [on_toI (by omega), show (0 : Int32).toInt = 0 from rfl] at this
    omega
  have big : (2147483647 : Int32).toInt = 2147483647 := rfl
  have cs := sz_cnt (t := s) n
  generalize hU : sz (fun _ => 1) n s = U at hj cs ⊢
  obtain ⟨⟨best, all⟩, q1, q2⟩ := lp_one (f := lsL F (Int32.ofNat s) (Int32.ofNat vi) (Int32.ofNat vp) (Int32.ofNat q) (Int32.ofNat G) n c)
    (fun z => ∃ k : Nat, z.2.2 = Int32.ofNat k ∧ k ≤ n ∧ ((z.2.1 = 1 ∧ z.1 = 2147483647 ∧ ∀ i, i < k → s.testBit i = true) ∨ (z.2.1 = 0 ∧ (∃ i, i < k ∧ s.testBit i = false ∧ ∃ ri, BFP (q + 1) n G pt (s ||| 2 ^ i) (pt i) ri ∧ z.1.toInt = dst (q + 1) G (vi, vp) (pt i) + ri) ∧ (∀ i, i < k → s.testBit i = false → ∃ ri, BFP (q + 1) n G pt (s ||| 2 ^ i) (pt i) ri ∧ z.1.toInt ≤ dst (q + 1) G (vi, vp) (pt i) + ri) ∧ z.1.toInt ≤ 100 * ((n : Int) + 1 - U))))
    (fun e => (e.2 = 1 ∧ ∀ i, i < n → s.testBit i = true) ∨ (e.2 = 0 ∧ BFP (q + 1) n G pt s (vi, vp) e.1.toInt ∧ e.1.toInt ≤ 100 * ((n : Int) + 1 - U))) (fun z => msr z.2.2 20) (by
    rintro ⟨b, a, kk⟩ ⟨k, rfl, kn, hk⟩
    dsimp only at hk ⊢
    unfold lsL
    dsimp only
    by_cases hkn : n ≤ k
    · right
      have : k = n := by omega
      subst this
      refine ⟨(b, a), by rw [if_pos ((on_le (by omega) (by omega)).mpr (Nat.le_refl _))], ?_⟩
      rcases hk with ⟨h1, -, h3⟩ | ⟨h1, ⟨i, i1, i2, i3⟩, h3, h4⟩
      · exact Or.inl ⟨h1, h3⟩
      · exact Or.inr ⟨h1, bf_step g0 v2 hp inj ⟨i, i1, i2, i3⟩ h3, h4⟩
    · left
      have kl : k < n := by omega
      have klt : Int32.ofNat k < 20 := (on_lt (k := k) (m := 20) (by omega) (by omega)).mpr (by omega)
      rw [if_neg (fun z => hkn ((on_le (by omega) (by omega)).mp z)), of_shr10 s (by omega) k (by omega)]
      by_cases hb : s.testBit k = true
      · rw [if_pos hb, if_pos rfl]
        refine ⟨(b, a, Int32.ofNat k + 1), rfl, ⟨k + 1, on_inc, by omega, ?_⟩, msr_lt klt⟩
        rcases hk with ⟨h1, h2, h3⟩ | ⟨h1, ⟨i, i1, i2, i3⟩, h3, h4⟩
        · refine Or.inl ⟨h1, h2, fun i hi => ?_⟩
          by_cases z : i = k
          · rw [z]; exact hb
          · exact h3 i (by omega)
        · refine Or.inr ⟨h1, ⟨i, by omega, i2, i3⟩, fun i' hi' hi2 => ?_, h4⟩
          by_cases z : i' = k
          · rw [z, hb] at hi2; exact absurd hi2 (by decide)
          · exact h3 i' (by omega) hi2
      · have hb0 : s.testBit k = false := by simpa using hb
        obtain ⟨pj, p1, p2, p3, p4⟩ := hc k kl
        have pm := Nat.mod_lt pj (show 0 < q by omega)
        have pd := Nat.div_le_self pj q
        have e1 : Int32.ofNat pj / Int32.ofNat q = Int32.ofNat (pj / q) := on_div hq (by omega) (by omega)
        have e2 : Int32.ofNat pj - Int32.ofNat pj / Int32.ofNat q * Int32.ofNat q + 1 = Int32.ofNat (pj % q + 1) := by
          have dv := Nat.div_add_mod pj q
          rw [Nat.mul_comm] at dv
          have m48 : pj / q * q ≤ pj := by omega
          rw [e1, on_mulI (by omega) (by omega) (by omega), on_subI (by omega) (by omega), on_inc]
          congr 1
          omega
        have gdn : ∀ {α : Type} {t : Option α}, gd (Int32.ofNat k) n t = t := fun {α t} => gdx (on_k (by omega)).2.2 (by rw [on_toI (by omega)]; omega)
        have szs := sz_or (a := fun _ => 1) kl hb0
        have hs2 : s ||| 2 ^ k < 2 ^ n := Nat.or_lt_two_pow hs (Nat.pow_lt_pow_right (by decide) kl)
        obtain ⟨r9, f1, f2, f3⟩ := hF (s ||| 2 ^ k) (pt k) hs2 (by rw [p3]; exact p4) (hp k kl) (by rw [szs, hU]; omega)
        obtain ⟨r7, t1, t2, t3, t4⟩ := b_dst (i := vi) (p := vp) (j := pj / q) (r := pj % q + 1) (q := q) (G := G) v1 p4 v2 (by omega) hq8 hG
        rw [szs, hU] at f2
        have f0 := f3.1
        rw [p3] at f1
        have sum : (r7 + r9).toInt = r7.toInt + r9.toInt := i_add (by push_cast at f2; omega) (by push_cast at f2; omega)
        rw [if_neg hb, if_neg (by decide), (on_k (show k < 100000 by omega)).1, p2, gdn, qz, gdn, qz, e2, e1, t1, bnd1_s, of_shl11 k (by omega), of_or, f1, bnd1_s]
        refine ⟨(if r7 + r9 < b then r7 + r9 else b, 0, Int32.ofNat k + 1), rfl, ⟨k + 1, on_inc, by omega, Or.inr ⟨rfl, ?_, ?_, ?_⟩⟩, msr_lt klt⟩
        · dsimp only
          by_cases z : r7 + r9 < b
          · rw [if_pos z]
            exact ⟨k, by omega, hb0, r9.toInt, f3, by rw [sum, t2, p3]⟩
          · rw [if_neg z]
            rcases hk with ⟨h1, h2, h3⟩ | ⟨h1, ⟨i, i1, i2, i3⟩, h3, h4⟩
            · exfalso
              rw [h2] at z
              apply z
              rw [i_lt, sum, big]
              push_cast at f2
              omega
            · exact ⟨i, by omega, i2, i3⟩
        · intro i hi hi2
          dsimp only
          by_cases zi : i = k
          · subst zi
            refine ⟨r9.toInt, f3, ?_⟩
            rw [p3, ← t2, ← sum]
            by_cases z : r7 + r9 < b
            · rw [if_pos z]; omega
            · rw [if_neg z]
              exact i_le.mp (Int32.not_lt.mp z)
          · rcases hk with ⟨h1, h2, h3⟩ | ⟨h1, -, h3, h4⟩
            · rw [h3 i (by omega)] at hi2; exact absurd hi2 (by decide)
            · obtain ⟨ri, x1, x2⟩ := h3 i (by omega) hi2
              refine ⟨ri, x1, ?_⟩
              by_cases z : r7 + r9 < b
              · rw [if_pos z]
                have := i_lt.mp z
                omega
              · rw [if_neg z]; exact x2
        · dsimp only
          have w : (r7 + r9).toInt ≤ 100 * ((n : Int) + 1 - U) := by
            rw [sum]; push_cast at f2; omega
          by_cases z : r7 + r9 < b
          · rw [if_pos z]; exact w
          · rw [if_neg z]
            rcases hk with ⟨h1, h2, h3⟩ | ⟨h1, -, h3, h4⟩
            · exfalso
              rw [h2] at z
              apply z
              rw [i_lt, big]
              omega
            · exact h4) fu (2147483647, 1, 0) ⟨0, rfl, by omega, Or.inl ⟨rfl, rfl, fun i hi => absurd hi (by omega)⟩⟩ (msr_fu (by dsimp only; decide) (by decide))
  unfold lsB
  rw [q1, bnd2_s]
  dsimp only at q2
  rcases q2 with ⟨h1, h2⟩ | ⟨h1, h2, h3⟩
  · rw [h1, if_neg one_ne]
    obtain ⟨r7, t1, t2, t3, t4⟩ := b_dst (i := vi) (p := vp) (j := 0) (r := 0) (q := q) (G := G) v1 (by omega) v2 (by omega) hq8 hG
    have z0 : Int32.ofNat 0 = 0 := rfl
    rw [z0] at t1
    rw [t1, bnd1_s]
    refine ⟨r7, rfl, by omega, ?_⟩
    rw [t2]
    exact bf_end g0 v2 h2
  · rw [h1, if_pos rfl]
    exact ⟨best, rfl, h3, h2⟩
theorem lv_0 {n q G : Nat} {c : Nat → Int32} {pt : Nat → VX} : LV (fun a b d => f_L_least0 a b d (Int32.ofNat q) (Int32.ofNat G) n c) n q G pt 0 := by
  intro s v _ _ _ h
  have := sz_cnt (t := s) n
  omega
theorem lv_1 {n q G : Nat} {c : Nat → Int32} {pt : Nat → VX} (hn : n ≤ 10) (hq : 1 ≤ q) (hq8 : q ≤ 8) (hG : G ≤ 5) (hc : PTC n q c pt) (inj : ∀ j k, j < n → k < n → pt j = pt k → j = k) : LV (fun a b d => f_L_least1 a b d (Int32.ofNat q) (Int32.ofNat G) n c) n q G pt 1 := by
  have h := lv_up hn hq hq8 hG hc inj (lv_0 (n := n) (q := q) (G := G) (c := c) (pt := pt))
  exact h
theorem lv_2 {n q G : Nat} {c : Nat → Int32} {pt : Nat → VX} (hn : n ≤ 10) (hq : 1 ≤ q) (hq8 : q ≤ 8) (hG : G ≤ 5) (hc : PTC n q c pt) (inj : ∀ j k, j < n → k < n → pt j = pt k → j = k) : LV (fun a b d => f_L_least2 a b d (Int32.ofNat q) (Int32.ofNat G) n c) n q G pt 2 := by
  have h := lv_up hn hq hq8 hG hc inj (lv_1 hn hq hq8 hG hc inj)
  exact h
theorem lv_3 {n q G : Nat} {c : Nat → Int32} {pt : Nat → VX} (hn : n ≤ 10) (hq : 1 ≤ q) (hq8 : q ≤ 8) (hG : G ≤ 5) (hc : PTC n q c pt) (inj : ∀ j k, j < n → k < n → pt j = pt k → j = k) : LV (fun a b d => f_L_least3 a b d (Int32.ofNat q) (Int32.ofNat G) n c) n q G pt 3 := by
  have h := lv_up hn hq hq8 hG hc inj (lv_2 hn hq hq8 hG hc inj)
  exact h
theorem lv_4 {n q G : Nat} {c : Nat → Int32} {pt : Nat → VX} (hn : n ≤ 10) (hq : 1 ≤ q) (hq8 : q ≤ 8) (hG : G ≤ 5) (hc : PTC n q c pt) (inj : ∀ j k, j < n → k < n → pt j = pt k → j = k) : LV (fun a b d => f_L_least4 a b d (Int32.ofNat q) (Int32.ofNat G) n c) n q G pt 4 := by
  have h := lv_up hn hq hq8 hG hc inj (lv_3 hn hq hq8 hG hc inj)
  exact h
theorem lv_5 {n q G : Nat} {c : Nat → Int32} {pt : Nat → VX} (hn : n ≤ 10) (hq : 1 ≤ q) (hq8 : q ≤ 8) (hG : G ≤ 5) (hc : PTC n q c pt) (inj : ∀ j k, j < n → k < n → pt j = pt k → j = k) : LV (fun a b d => f_L_least5 a b d (Int32.ofNat q) (Int32.ofNat G) n c) n q G pt 5 := by
  have h := lv_up hn hq hq8 hG hc inj (lv_4 hn hq hq8 hG hc inj)
  exact h
theorem lv_6 {n q G : Nat} {c : Nat → Int32} {pt : Nat → VX} (hn : n ≤ 10) (hq : 1 ≤ q) (hq8 : q ≤ 8) (hG : G ≤ 5) (hc : PTC n q c pt) (inj : ∀ j k, j < n → k < n → pt j = pt k → j = k) : LV (fun a b d => f_L_least6 a b d (Int32.ofNat q) (Int32.ofNat G) n c) n q G pt 6 := by
  have h := lv_up hn hq hq8 hG hc inj (lv_5 hn hq hq8 hG hc inj)
  exact h
theorem lv_7 {n q G : Nat} {c : Nat → Int32} {pt : Nat → VX} (hn : n ≤ 10) (hq : 1 ≤ q) (hq8 : q ≤ 8) (hG : G ≤ 5) (hc : PTC n q c pt) (inj : ∀ j k, j < n → k < n → pt j = pt k → j = k) : LV (fun a b d => f_L_least7 a b d (Int32.ofNat q) (Int32.ofNat G) n c) n q G pt 7 := by
  have h := lv_up hn hq hq8 hG hc inj (lv_6 hn hq hq8 hG hc inj)
  exact h
theorem bf_best {L n : Nat} {g best r : Int} {pt : Nat → VX} {T : Nat → Nat → Int} (hg : 0 ≤ g) (hn : 1 ≤ n) (hn2 : n ≤ 10) (hp : ∀ k, k < n → (pt k).2 ≤ L) (inj : ∀ j k, j < n → k < n → pt j = pt k → j = k) (h : HK L n g pt T best) (hb : best < 1000000000) (hr : BFP L n g pt 0 (0, 0) r) : best = r := by
  obtain ⟨-, ⟨l, l1, l2, l3, l4⟩, r3⟩ := hr
  have z : ∀ k, (0 : Nat).testBit k = false := fun k => Nat.zero_testBit k
  have in_ : ∀ l' : List VX, (∀ x, x ∈ l' → x = (0, 0) ∨ ∃ k, k < n ∧ x = pt k) → ∀ x, x ∈ l' → x.2 ≤ L := fun l' hl x hx => by
    rcases hl x hx with e | ⟨k, k1, e⟩
    · rw [e]; exact Nat.zero_le _
    · rw [e]; exact hp k k1
  have a := hk_up hg hn hn2 hp inj h l1 (in_ l l3) (fun k hk => l4 k hk (z k))
  obtain ⟨m, m1, m2, m3, m4⟩ := hk_low hg hn2 hp h hb
  have b := r3 m m1 (in_ m m3) (fun k hk _ => m4 k hk)
  omega
theorem wk_best {L n : Nat} {g best c : Int} {pt : Nat → VX} {T : Nat → Nat → Int} {S : VX → Prop} (hg : 0 ≤ g) (hn : 1 ≤ n) (hn2 : n ≤ 10) (hp : ∀ k, k < n → (pt k).2 ≤ L ∧ 1 ≤ (pt k).2) (inj : ∀ j k, j < n → k < n → pt j = pt k → j = k) (h : HK L n g pt T best) (hw : WK L g (0, 0) (0, 0) S c) (hS : ∀ k, k < n → S (pt k)) : best ≤ c := by
  obtain ⟨l, l1, l2, l3, l4⟩ := hw
  have a := hk_up hg hn hn2 (fun k hk => (hp k hk).1) inj h l1 l3 (fun k hk => by
    rcases l4 _ (hS k hk) with e | e
    · have := (hp k hk).2
      rw [e] at this
      exact absurd this (by decide)
    · exact e)
  omega
/-- the marks of the wave and the bits -/
theorem mk_bits {plc pos lan gp : Int32} {pkd : Int64} {pmk w : Nat → Int32} {M q : Nat} (hW : MW w M q gp pkd) (hK : QK plc pkd w) (hk : QK plc pkd (mkw plc pmk)) (hp : plc = Int32.ofNat (M * q)) (hM : M * q ≤ 48) : ∀ k, k < M * q → (PB pkd k ↔ pmk k = 2) := by
  intro k hk2
  have k48 : k < 48 := by omega
  obtain ⟨k1, k2, k3⟩ := on_k (show k < 100000 by omega)
  have kl : Int32.ofNat k < 48 := (on_lt (k := k) (m := 48) (by omega) (by omega)).mpr k48
  have kp : Int32.ofNat k < plc := by rw [hp]; exact (on_lt (by omega) (by omega)).mpr hk2
  have e1 : ix w (159 + Int32.ofNat k) = w (159 + k) := by
    rw [on_159 k48]; unfold ix; rw [(on_k (show 159 + k < 100000 by omega)).1]
  have p0 : 0 ≤ plc := by rw [hp]; exact (on_k (by omega)).2.2
  have e2 := mkw_at (plc := plc) (c := pmk) k3 kl p0
  have e3 : ix pmk (Int32.ofNat k) = pmk k := by unfold ix; rw [k1]
  rw [e3] at e2
  have e4 := hW.2.2.2.1 k k48
  have same : ix w (159 + Int32.ofNat k) = ix (mkw plc pmk) (159 + Int32.ofNat k) := by
    rcases hK.2 _ k3 kl with ⟨a, b⟩ | ⟨a, b, -⟩ <;> rcases hk.2 _ k3 kl with ⟨c, d⟩ | ⟨c, d, -⟩
    · rw [a, c]
    · rw [b] at d; exact absurd d (by decide)
    · rw [b] at d; exact absurd d (by decide)
    · rw [a, c]
  rw [e1, e2, e4] at same
  by_cases a : PB pkd k
  · rw [if_pos a] at same
    by_cases b : Int32.ofNat k < plc ∧ pmk k = 2
    · exact ⟨fun _ => b.2, fun _ => a⟩
    · rw [if_neg b] at same; exact absurd same (by decide)
  · rw [if_neg a] at same
    by_cases b : Int32.ofNat k < plc ∧ pmk k = 2
    · rw [if_pos b] at same; exact absurd same (by decide)
    · exact ⟨fun z => absurd z a, fun z => absurd ⟨kp, z⟩ b⟩
theorem bc_cn {tod prods lan pos rom gp plc lcn ocn : Int32} {pkd : Int64} {w : Nat → Int32} {M q : Nat} (hD : QD tod prods lan pos rom gp plc lcn ocn w) (hK : QK plc pkd w) (hW : MW w M q gp pkd) (m48 : M * q ≤ 48) (m6 : M ≤ 6) (q8 : q ≤ 8) : f_J13_bitCount_95d88 pkd = some (Int32.ofNat (cn pkd (M * q))) := by
  obtain ⟨pc, pc1, pc2⟩ := p_pickCount (c := 0) hD hK
  have P := n_picks hW m48 m6 q8
  unfold f_Y8_pickCount at pc2
  rw [P, bnd1_s] at pc2
  have e : pc = Int32.ofNat (cn pkd (M * q)) := by
    have := Option.some.inj pc2
    exact (congrArg Prod.fst this).symm
  rw [e] at pc1
  unfold f_X7_pickCount at pc1
  cases hb : f_J13_bitCount_95d88 pkd with
  | none => rw [hb] at pc1; exact absurd pc1 (by simp [bnd1])
  | some x => rw [hb, bnd1_s] at pc1; exact pc1
theorem t_ls1 {dp : Int32} {gp : Int32} {lan : Int32} {nx : Nat → Int32} {pkd : Int64} {pl : Nat → Int32} {plc : Int32} {plot : Nat → Int32} {pmk : Nat → Int32} {pos : Int32} {ppc : Nat → Int32} {sh : Int32} {wd : Int32} {M q : Nat} (hp : plc = Int32.ofNat (M * q)) (hlp : lan * pos = plc) (hM : M * q ≤ 48) (hm : ∀ k, k < M * q → (PB pkd k ↔ pmk k = 2)) : ∃ e, loop (fun z : Int32 × Int32 => f_L_isLeast_L4 lan pos gp lan pos gp plc pkd plot ppc pmk dp sh wd pl nx z.1 z.2) fu (0, 0) = some e ∧ e = Int32.ofNat (cn pkd (M * q)) := by
  have pn : plc.toNatClampNeg = M * q := by rw [hp]; exact (on_k (by omega)).1
  have p0 : 0 ≤ plc := by rw [hp]; exact (on_k (by omega)).2.2
  have p48 : plc ≤ 48 := by rw [hp]; exact (on_le (k := M * q) (m := 48) (by omega) (by omega)).mpr hM
  refine ⟨_, sum_loop (F := fun n => if ix pmk n = 2 then 1 else 0) (N := plc) p0 (Int32.lt_of_le_of_lt p48 (by decide)) (fun a n n0 n1 => ?_), ?_⟩
  · dsimp only
    unfold f_L_isLeast_L4 f_L_isLeast_L4_J33
    rw [hlp]
    by_cases hn : plc ≤ n
    · rw [if_pos hn, if_pos hn]
    · rw [if_neg hn, if_neg hn, a_pl3 p48 n0 (Int32.not_le.mp hn), bnd1_s, mxo]
      by_cases hz : ix pmk n = 2
      · rw [if_pos hz, if_pos hz]
      · rw [if_neg hz, if_neg hz, Int32.add_zero]
  · rw [pn]
    have : ∀ k, k ≤ M * q → isum (fun n => if ix pmk n = 2 then 1 else 0) k = Int32.ofNat (cn pkd k) := by
      intro k
      induction k with
      | zero => intro _; rfl
      | succ k ih =>
        intro hk
        have e3 : ix pmk (Int32.ofNat k) = pmk k := by unfold ix; rw [(on_k (show k < 100000 by omega)).1]
        show isum _ k + (if ix pmk (Int32.ofNat k) = 2 then 1 else 0) = _
        rw [ih (by omega), e3]
        by_cases z : pmk k = 2
        · rw [if_pos z, cn_t ((hm k (by omega)).mpr z), on_inc]
        · rw [if_neg z, cn_f (fun y => z ((hm k (by omega)).mp y)), Int32.add_zero]
    exact this _ (Nat.le_refl _)
theorem t_ls2 {dp : Int32} {gp : Int32} {lan : Int32} {nx : Nat → Int32} {pkd : Int64} {pl : Nat → Int32} {plc : Int32} {plot : Nat → Int32} {pmk : Nat → Int32} {pos : Int32} {ppc : Nat → Int32} {sh : Int32} {wd : Int32} {M q : Nat} (hp : plc = Int32.ofNat (M * q)) (hlp : lan * pos = plc) (hM : M * q ≤ 48) (hm : ∀ k, k < M * q → (PB pkd k ↔ pmk k = 2)) (N1 N3 : Int32) (h1 : N1 = Int32.ofNat (cn pkd (M * q))) (h3 : N3.toInt = ((M * q : Nat) : Int) - 1) : ∃ e, loop (fun z : Int32 × Int32 × (Nat → Int32) => f_L_isLeast_L68 lan pos gp lan pos gp plc pkd plot ppc pmk dp sh wd pl nx (cn pkd (M * q)) z.1 z.2.1 z.2.2) fu (N1, N3, fun _ => 0) = some e ∧ ∀ j, j < M * q → PB pkd j → e (cn pkd j) = Int32.ofNat j := by
  have pn : plc.toNatClampNeg = M * q := by rw [hp]; exact (on_k (by omega)).1
  have p48 : plc ≤ 48 := by rw [hp]; exact (on_le (k := M * q) (m := 48) (by omega) (by omega)).mpr hM
  refine lp_one (f := fun z : Int32 × Int32 × (Nat → Int32) => f_L_isLeast_L68 lan pos gp lan pos gp plc pkd plot ppc pmk dp sh wd pl nx (cn pkd (M * q)) z.1 z.2.1 z.2.2) (fun z => ∃ k : Nat, k ≤ M * q ∧ z.1 = Int32.ofNat (cn pkd k) ∧ z.2.1.toInt = (k : Int) - 1 ∧ ∀ j, k ≤ j → j < M * q → PB pkd j → z.2.2 (cn pkd j) = Int32.ofNat j) (fun e => ∀ j, j < M * q → PB pkd j → e (cn pkd j) = Int32.ofNat j) (fun z => (z.2.1.toInt + 1).toNat) ?_ fu (N1, N3, fun _ => 0) ⟨M * q, Nat.le_refl _, h1, h3, fun j a b => absurd b (by omega)⟩ (by dsimp only; rw [h3]; unfold fu; omega)
  rintro ⟨n1, n3, cq⟩ ⟨k, g1, g2, g3, g4⟩
  dsimp only at g2 g3 g4 ⊢
  unfold f_L_isLeast_L68
  have i0 : (0 : Int32).toInt = 0 := rfl
  by_cases hk : k = 0
  · subst hk
    exact Or.inr ⟨cq, by rw [if_pos (by rw [i_lt, g3, i0]; decide)], fun j hj => g4 j (Nat.zero_le _) hj⟩
  · left
    obtain ⟨k', rfl⟩ : ∃ k', k = k' + 1 := ⟨k - 1, by omega⟩
    have e3 : n3 = Int32.ofNat k' := by rw [i_eq, g3, on_toI (by omega)]; omega
    subst e3
    have kd : (Int32.ofNat k' + (-1)).toInt = (k' : Int) - 1 := by
      rw [i_add (by rw [on_toI (by omega), show (-1 : Int32).toInt = -1 from rfl]; omega) (by rw [on_toI (by omega), show (-1 : Int32).toInt = -1 from rfl]; omega), on_toI (by omega)]; rfl
    have x0 : 0 ≤ Int32.ofNat k' := (on_k (by omega)).2.2
    have xl : Int32.ofNat k' < plc := by rw [hp]; exact (on_lt (by omega) (by omega)).mpr (by omega)
    have em : ix pmk (Int32.ofNat k') = pmk k' := by unfold ix; rw [(on_k (show k' < 100000 by omega)).1]
    have c48 := cn_self (v := pkd) (M * q)
    have mes : ((Int32.ofNat k' + (-1)).toInt + 1).toNat < ((Int32.ofNat k').toInt + 1).toNat := by rw [kd, on_toI (by omega)]; omega
    rw [if_neg (by rw [i_lt, g3, i0]; omega), a_pl3 p48 x0 xl, bnd1_s, mxo, em]
    unfold f_L_isLeast_L68_J95
    by_cases z : pmk k' = 2
    · have hb := (hm k' (by omega)).mpr z
      have c1 := cn_t hb
      have c2 := cn_lt hb (show k' < M * q by omega)
      have en : n1 + (-1) = Int32.ofNat (cn pkd k') := by
        rw [g2, c1, ← on_inc]
        rw [Int32.add_assoc, show (1 : Int32) + (-1) = 0 from rfl, Int32.add_zero]
      rw [if_pos z, en, gdx (on_k (by omega)).2.2 (by rw [on_toI (by omega)]; omega), (on_k (show cn pkd k' < 100000 by omega)).1]
      refine ⟨(Int32.ofNat (cn pkd k'), Int32.ofNat k' + (-1), upd cq (cn pkd k') (Int32.ofNat k')), rfl, ⟨k', by omega, rfl, kd, fun j j1 j2 j3 => ?_⟩, mes⟩
      dsimp only
      by_cases e : j = k'
      · rw [e]; exact upd_eq
      · have := cn_lt hb (show k' < j by omega)
        rw [upd_of (by omega)]
        exact g4 j (by omega) j2 j3
    · have hb : ¬ PB pkd k' := fun y => z ((hm k' (by omega)).mp y)
      have c1 := cn_f hb
      rw [if_neg z]
      refine ⟨(n1, Int32.ofNat k' + (-1), cq), rfl, ⟨k', by omega, by rw [g2, c1], kd, fun j j1 j2 j3 => ?_⟩, mes⟩
      dsimp only
      by_cases e : j = k'
      · rw [e] at j3; exact absurd j3 hb
      · exact g4 j (by omega) j2 j3
set_option maxHeartbeats 2000000 in
theorem t_least {tod : Int32} {prods : Int32} {icnt : Int32} {itm : Nat → Int32} {bks : Nat → Int32} {trm : Nat → Int32} {lan : Int32} {pos : Int32} {rom : Int32} {gp : Int32} {plc : Int32} {pkd : Int64} {plot : Nat → Int32} {ppc : Nat → Int32} {pmk : Nat → Int32} {pbd : Nat → Int32} {lcn : Int32} {lpr : Nat → Int32} {lla : Nat → Int32} {lco : Nat → Int32} {lst : Nat → Int32} {lbl : Nat → Int32} {ocn : Int32} {gif : Int32} {ocu : Nat → Int32} {opr : Nat → Int32} {oop : Nat → Int32} {odu : Nat → Int32} {oli : Nat → Int32} {obd : Nat → Int32} {oha : Nat → Int32} {ost : Nat → Int32} {acts : Int32} {ns : Int32} {hk : Nat} {st : Nat → StT} {pt : Nat → Int32} {lo : Nat → Int32} {hi : Nat → Int32} {bo : Nat → Int64} {co : Nat → Int64} {ac : Nat → Int32} {la : Int32} {po : Int32} {gg : Int32} {dp : Int32} {sh : Int32} {wd : Int32} {pl : Nat → Int32} {nx : Nat → Int32} (hJ : JV (tod, prods, icnt, itm, bks, trm, lan, pos, rom, gp, plc, pkd, plot, ppc, pmk, pbd, lcn, lpr, lla, lco, lst, lbl, ocn, gif, ocu, opr, oop, odu, oli, obd, oha, ost) acts ns hk st pt lo hi bo co ac) (f1 : la = lan) (f2 : po = pos) (f3 : gg = gp) (hk : QK plc pkd (mkw plc pmk)) : Gs (f_L_isLeast la po gg lan pos gp plc pkd plot ppc pmk dp sh wd pl nx) (fun o => o.1 = 1) := by
  have f1 := f1.symm
  have f2 := f2.symm
  have f3 := f3.symm
  subst f1 f2 f3
  obtain ⟨w, near, ⟨hD, hB, hP, hK, hL, hLs, hO, hOs, hH, hG, hS, hI, hT, hA, hN⟩, hR, hPL⟩ := hJ.ex
  clear hB hP hL hLs hO hOs hH hG hS hI hT hA hN hR hPL hJ
  obtain ⟨d0, d1, d2, d3, d4, d5, d6, d7, d8, d9, d10, d11, d12, d13, d14, d15, d16, d17, d18, d19, d20, d21, d22, d23, d24, d25, d26⟩ := id hD
  obtain ⟨M, q, eM, eQ, m1, m6, q1, q8, m48, hW, g1, g5⟩ := wave_MW hD hK
  have hp : plc = Int32.ofNat (M * q) := by rw [d15, eM, eQ, on_mulI (by omega) (by omega) (by omega)]
  have hm := mk_bits (pos := pos) (lan := lan) hW hK hk hp m48
  have bc := bc_cn hD hK hW m48 m6 q8
  have c48 := cn_self (v := pkd) (M * q)
  obtain ⟨G, hG⟩ : ∃ G : Nat, G = gp.toNatClampNeg := ⟨_, rfl⟩
  have gG : gp = Int32.ofNat G := by rw [hG]; exact (of_tn (Int32.le_trans (by decide) d13)).symm
  have G5 : G ≤ 5 := by rw [hG]; exact (tn_le (Int32.le_trans (by decide) d13) (by decide)).mp d14
  have gI : gp.toInt = (G : Int) := by rw [gG, on_toI (by omega)]
  have sL := fun d0 s0 w0 (l n : Nat → Int32) hc => s_least (w := w) (least := l) (next := n) (lane := fun _ => 0) (position := fun _ => 0) (mleast := fun _ => 0) d0 s0 w0 hW q1 q8 m6 m48 (by omega) g5 hc
  have nL := fun h0 hc => n_leastWay (lane := fun _ => 0) (position := fun _ => 0) (least := fun _ => 0) hW m48 m6 q1 q8 (by omega) g5 h0 hc
  have sR := fun d0 s0 w0 => s_rule (v := pkd) d0 s0 w0 hW q1 q8 m6 m48
  have aR := a_rules (v := pkd) (M := M) (q := q) gG G5 q1 q8 m6 m48
  unfold f_L_isLeast
  refine gs_l (t_ls1 hp d15.symm m48 hm) ?_
  rintro e rfl
  have n6 : ¬ Int32.ofNat (cn pkd (M * q)) < 0 := Int32.not_lt.mpr (on_k (by omega)).2.2
  have tn : (Int32.ofNat (cn pkd (M * q))).toNatClampNeg = cn pkd (M * q) := (on_k (by omega)).1
  refine gs_b1 (by unfold f_X7_pickCount; rw [bc, bnd1_s]) (gs_t rfl ?_)
  unfold ga
  rw [if_pos ⟨n6, by rw [tn]; omega⟩, tn]
  unfold f_L_isLeast_A55
  refine gs_l (t_ls2 hp d15.symm m48 hm _ _ rfl (by rw [← d15, hp, i_sub (by rw [on_toI (by omega)]; show _ ≤ _ - (1 : Int); omega) (by rw [on_toI (by omega)]; show _ - (1 : Int) ≤ _; omega), on_toI (by omega)]; rfl)) ?_
  intro cc hcc
  have key0 : ∀ d0 s0 w0 (l n : Nat → Int32), f_X7_pickLength 0 lan pos gp pkd d0 s0 w0 l n = bnd4 (f_X3_through d0 s0 w0 lan pos gp pkd) (fun r24 o26 o27 o28 => some (.ok r24, o26, o27, o28, l, n)) := fun d0 s0 w0 l n => rfl
  have key1 : ∀ d0 s0 w0 (l n : Nat → Int32), f_X7_pickLength 1 lan pos gp pkd d0 s0 w0 l n = bnd4 (f_X3_back d0 s0 w0 lan pos gp pkd) (fun r19 o21 o22 o23 => some (.ok r19, o21, o22, o23, l, n)) := fun d0 s0 w0 l n => rfl
  generalize hn : cn pkd (M * q) = n at *
  have key2 : n ≤ 10 → ∀ d0 s0 w0 (l nn : Nat → Int32), f_X7_pickLength 2 lan pos gp pkd d0 s0 w0 l nn = bnd6 (f_X3_least d0 s0 w0 l nn lan pos gp pkd) (fun r12 o14 o15 o16 o17 o18 => some (.ok r12, o14, o15, o16, o17, o18)) := fun h10 d0 s0 w0 l nn => by
    unfold f_X7_pickLength
    rw [n_range, if_pos (by decide), bnd1_s, mxo, if_neg (by decide), if_neg (by decide), bc, bnd1_s, if_neg (show ¬ (10 : Int32) < Int32.ofNat n from fun z => absurd ((on_lt (k := 10) (m := n) (by omega) (by omega)).mp z) (by omega))]
    unfold f_X7_pickLength_J68
    rw [n_needState, if_neg one_ne, bnd1_s, mxo]
  rw [← eM, ← eQ] at sL sR aR
  by_cases h10 : n ≤ 10
  · refine gs_t ((on_le (k := n) (m := 10) (by omega) (by omega)).mpr h10) ?_
    obtain ⟨r, da, sa, wa, la', na, u1, u2⟩ := sL dp sh wd pl nx h10
    refine gs_b6 (by rw [key2 h10, u1, bnd6_s]) (gs_ok ?_)
    by_cases hz : n = 0
    · have r0 : r = 0 := by
        rcases u2 with ⟨-, z⟩ | ⟨z, -⟩
        · exact z
        · exact absurd hz z
      subst r0
      obtain ⟨r1, db, sb, wb, v1, v2⟩ := (sR da sa wa).1
      have e1 : r1 = 0 := by
        rcases v2 with ⟨-, z⟩ | ⟨z, -⟩
        · exact z
        · exact absurd hz z
      subst e1
      refine gs_b6 (by rw [key0, v1, bnd4_s]) (gs_ok (gs_e (by decide) ?_))
      obtain ⟨r2, dc, sc, wc_, x1, x2⟩ := (sR db sb wb).2
      have e2 : r2 = 0 := by
        rcases x2 with ⟨-, z⟩ | ⟨z, -⟩
        · exact z
        · exact absurd hz z
      subst e2
      refine gs_b6 (by rw [key1, x1, bnd4_s]) (gs_ok (gs_t (by decide) ?_))
      rw [hz]
      refine gs_e (by decide) (gs_t rfl ?_)
      unfold f_L_isLeast_J185 f_L_isLeast_J188
      exact gs_t rfl (gs_i rfl)
    · obtain ⟨b, la2, po2, c2, pt, w1, w2, w3⟩ := nL (by omega) h10
      have rb : r = b := by
        rcases u2 with ⟨z, -⟩ | ⟨-, x, y, z, w4⟩
        · exact absurd z hz
        · rw [w1] at w4
          exact (Prod.mk.inj (Option.some.inj w4)).1.symm
      subst rb
      obtain ⟨k, kL, kt, kb⟩ := aR hz
      have ptk : ∀ m, m < n → ∃ j, j < M * q ∧ PB pkd j ∧ cn pkd j = m ∧ pt m = (j / q, j % q + 1) := fun m hm' => by
        obtain ⟨j, j1, j2, j3⟩ := cn_surj (v := pkd) (M * q) m (by omega)
        exact ⟨j, j1, j2, j3, by rw [← j3]; exact w2 j j1 j2⟩
      have inj : ∀ a b, a < n → b < n → pt a = pt b → a = b := fun a b ha hb e => by
        obtain ⟨j, j1, j2, j3, j4⟩ := ptk a ha
        obtain ⟨j', j1', j2', j3', j4'⟩ := ptk b hb
        rw [j4, j4'] at e
        have e1 : j / q = j' / q := congrArg Prod.fst e
        have e2 : j % q + 1 = j' % q + 1 := congrArg Prod.snd e
        have v1 := Nat.div_add_mod j q
        have v2 := Nat.div_add_mod j' q
        rw [e1] at v1
        have : j = j' := by omega
        rw [← j3, ← j3', this]
      have hpt : ∀ m, m < n → (pt m).2 ≤ q + 1 ∧ 1 ≤ (pt m).2 := fun m hm' => by
        obtain ⟨j, j1, j2, j3, j4⟩ := ptk m hm'
        have := Nat.mod_lt j (show 0 < q by omega)
        rw [j4]; dsimp only; omega
      have cov : ∀ m, m < n → (pt m).1 ≤ k ∧ (pt m).2 ≤ dpf pkd q (pt m).1 ∧ dpf pkd q (pt m).1 ≠ 0 := fun m hm' => by
        obtain ⟨j, j1, j2, j3, j4⟩ := ptk m hm'
        obtain ⟨a, b⟩ := pk_of q1 j1 j2
        have le := (dp_at q1 q8 (lane_in a m48)).1.2.1 _ b
        rw [j4]
        refine ⟨?_, le, by dsimp only; omega⟩
        dsimp only
        apply Classical.byContradiction
        intro z
        exact kL.2.2 _ _ (by omega) a b
      have km := kL.1
      have Dq : ∀ i, i ≤ k → dpf pkd q i ≤ q + 1 := fun i hi => by
        have := (dp_at (v := pkd) q1 q8 (lane_in (show i < M by omega) m48)).1.1
        omega
      have Dk : dpf pkd q k ≠ 0 := (last_D q1 q8 m48 kL).1
      obtain ⟨W1, W2⟩ := w_rules (L := q + 1) (g := (G : Int)) Dq Dk
      rw [gI] at w3
      have B1 := wk_best (by omega) (by omega) h10 hpt inj w3 W1 (fun m hm' => ⟨(cov m hm').1, (cov m hm').2.1⟩)
      have B2 := wk_best (by omega) (by omega) h10 hpt inj w3 W2 (fun m hm' => cov m hm')
      obtain ⟨r1, db, sb, wb, v1, v2⟩ := kt da sa wa
      obtain ⟨r2, dc, sc, wc_, x1, x2⟩ := kb db sb wb
      refine gs_b6 (by rw [key0, v1, bnd4_s]) (gs_ok (gs_e ?_ ?_))
      · rw [i_lt, v2]
        push_cast at B2 ⊢
        omega
      refine gs_b6 (by rw [key1, x1, bnd4_s]) (gs_ok (gs_t ?_ ?_))
      · rw [i_le, x2]
        push_cast at B1 ⊢
        omega
      by_cases h7 : n ≤ 6
      · refine gs_e (fun z => absurd ((on_lt (k := 6) (m := n) (by omega) (by omega)).mp z) (by omega)) (gs_e (fun z => hz (by
          have := congrArg Int32.toInt z
          rw [on_toI (by omega), show (0 : Int32).toInt = 0 from rfl] at this
          omega)) ?_)
        have PC : PTC n q cc pt := fun m hm' => by
          obtain ⟨j, j1, j2, j3, j4⟩ := ptk m hm'
          have a := (pk_of q1 j1 j2).1
          exact ⟨j, by omega, by rw [← j3]; exact hcc j j1 j2, j4, by omega⟩
        have z0 : Int32.ofNat 0 = 0 := rfl
        obtain ⟨r7, y1, y2, y3⟩ := lv_7 h10 q1 q8 G5 PC inj 0 (0, 0) (Nat.two_pow_pos n) (by decide) (Nat.zero_le _) (by rw [sz_0]; omega)
        dsimp only at y1
        rw [z0, ← gG, ← eQ] at y1
        refine gs_b1 y1 ?_
        have s96 : r.toInt < 1000000000 := by
          have q3 := smf_le (D := dpf pkd q) (q := q + 1) (k + 1) (fun i hi => Dq i (by omega))
          have k6 := kL.1
          have q4 : 2 * (q + 1) * (k + 1) ≤ 2 * 9 * 6 := Nat.mul_le_mul (by omega) (by omega)
          have q5 : 2 * (G : Int) * k ≤ 2 * 5 * 6 := Int.mul_le_mul (by omega) (by omega) (by omega) (by omega)
          omega
        have fin := bf_best (by omega) (by omega) h10 (fun m hm' => (hpt m hm').1) inj w3 s96 y3
        unfold f_L_isLeast_J185 f_L_isLeast_J188
        exact gs_t (i_eq.mpr fin) (gs_i rfl)
      · refine gs_t ((on_lt (k := 6) (m := n) (by omega) (by omega)).mpr (by omega)) ?_
        unfold f_L_isLeast_J188
        exact gs_i rfl
  · refine gs_e (fun z => h10 ((on_le (k := n) (m := 10) (by omega) (by omega)).mp z)) ?_
    obtain ⟨k, kL, kt, kb⟩ := aR (by omega)
    obtain ⟨r1, db, sb, wb, v1, v2⟩ := kt dp sh wd
    have Dk : dpf pkd q k ≠ 0 := (last_D q1 q8 m48 kL).1
    refine gs_b6 (by rw [key0, v1, bnd4_s]) (gs_ok (gs_e ?_ (gs_i rfl)))
    have e1 : ctf (dpf pkd q) (k + 1) = ctf (dpf pkd q) k + 1 := by show ctf (dpf pkd q) k + (if dpf pkd q k = 0 then 0 else 1) = _; rw [if_neg Dk]
    rw [i_le, v2, show (0 : Int32).toInt = 0 from rfl, e1]
    by_cases z : (ctf (dpf pkd q) k + 1) % 2 = 0
    · rw [if_pos z, z, Nat.sub_zero]
      have : 1 * 1 ≤ (ctf (dpf pkd q) k + 1) * (q + 1) := Nat.mul_le_mul (by omega) (by omega)
      omega
    · rw [if_neg z]
      omega
