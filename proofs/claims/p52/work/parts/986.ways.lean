/-! ===== ways by rule ===== -/
theorem w_exc {L i p : Nat} {g : Int} (hp : p ≤ L) : WK L g (i, 0) (i, 0) (fun x => x.1 = i ∧ x.2 ≤ p) (2 * p) := by
  have h := WK_lane (L := L) (i := i) (p := 0) (g := g) p (by omega)
  rw [Nat.zero_add] at h
  exact WK_mono (WK_trans h.1 h.2) (by omega) (fun x hx => Or.inl ⟨hx.1, Nat.zero_le _, hx.2⟩)
theorem w_home {L : Nat} {g : Int} : ∀ k : Nat, WK L g (k, 0) (0, 0) (fun _ => False) (g * k) := by
  intro k
  induction k with
  | zero => exact WK_mono WK_refl (by simp) (fun x hx => hx.elim)
  | succ k ih =>
    have c := (WK_cross (L := L) (i := k) (g := g) (p := 0) (Or.inl rfl)).2
    refine WK_mono (WK_trans c ih) ?_ (fun x hx => hx.elim)
    push_cast
    rw [Int.mul_add, Int.mul_one]; omega
theorem w_back {L : Nat} {g : Int} {D : Nat → Nat} : ∀ k : Nat, (∀ i, i ≤ k → D i ≤ L) → WK L g (0, 0) (k, 0) (fun x => x.1 ≤ k ∧ x.2 ≤ D x.1) (g * k + (smf D (k + 1) : Nat)) := by
  intro k
  induction k with
  | zero =>
    intro h
    refine WK_mono (w_exc (h 0 (Nat.le_refl _))) ?_ (fun x hx => ?_)
    · show _ ≤ g * 0 + ((0 + 2 * D 0 : Nat) : Int)
      push_cast; omega
    · have e : x.1 = 0 := by omega
      exact ⟨e, by rw [← e]; exact hx.2⟩
  | succ k ih =>
    intro h
    have c := (WK_cross (L := L) (i := k) (g := g) (p := 0) (Or.inl rfl)).1
    refine WK_mono (WK_trans (WK_trans (ih (fun i hi => h i (by omega))) c) (w_exc (h (k + 1) (Nat.le_refl _)))) ?_ (fun x hx => ?_)
    · show _ ≤ g * ((k + 1 : Nat) : Int) + ((smf D (k + 1) + 2 * D (k + 1) : Nat) : Int)
      push_cast
      rw [Int.mul_add, Int.mul_one]; omega
    · by_cases e : x.1 = k + 1
      · exact Or.inr ⟨e, by rw [← e]; exact hx.2⟩
      · exact Or.inl (Or.inl ⟨by omega, hx.2⟩)
def sde (L c : Nat) : Nat := if c % 2 = 0 then 0 else L
theorem w_through {L : Nat} {g : Int} {D : Nat → Nat} : ∀ k : Nat, WK L g (0, 0) (k, sde L (ctf D k)) (fun x => x.1 < k ∧ D x.1 ≠ 0 ∧ x.2 ≤ L) (g * k + (L * ctf D k : Nat)) := by
  intro k
  induction k with
  | zero =>
    refine WK_mono (show WK L g (0, 0) (0, 0) _ 0 from WK_refl) ?_ (fun x hx => absurd hx.1 (by omega))
    show _ ≤ g * 0 + ((L * 0 : Nat) : Int)
    simp
  | succ k ih =>
    have hs : ∀ c, sde L c = 0 ∨ sde L c = L := fun c => by unfold sde; split <;> simp
    by_cases e : D k = 0
    · have e1 : ctf D (k + 1) = ctf D k := by show ctf D k + (if D k = 0 then 0 else 1) = _; rw [if_pos e]; omega
      have c := (WK_cross (L := L) (i := k) (g := g) (hs (ctf D k))).1
      rw [e1]
      refine WK_mono (WK_trans ih c) ?_ (fun x hx => Or.inl ⟨?_, hx.2⟩)
      · push_cast; rw [Int.mul_add, Int.mul_one]; omega
      · have : x.1 ≠ k := fun z => hx.2.1 (by rw [z]; exact e)
        omega
    · have e1 : ctf D (k + 1) = ctf D k + 1 := by show ctf D k + (if D k = 0 then 0 else 1) = _; rw [if_neg e]
      have c := (WK_cross (L := L) (i := k) (g := g) (hs (ctf D k + 1))).1
      have t : WK L g (k, sde L (ctf D k)) (k, sde L (ctf D k + 1)) (fun x => x.1 = k ∧ x.2 ≤ L) L := by
        unfold sde
        by_cases z : ctf D k % 2 = 0
        · rw [if_pos z, if_neg (by omega)]; exact WK_all.1
        · rw [if_neg z, if_pos (by omega)]; exact WK_all.2
      rw [e1]
      refine WK_mono (WK_trans (WK_trans ih t) c) ?_ (fun x hx => Or.inl ?_)
      · push_cast; rw [Int.mul_add, Int.mul_add, Int.mul_one, Int.mul_one]; omega
      · by_cases z : x.1 = k
        · exact Or.inr ⟨z, hx.2.2⟩
        · exact Or.inl ⟨by omega, hx.2⟩
/-- both rules' ways round -/
theorem w_rules {L k : Nat} {g : Int} {D : Nat → Nat} (hD : ∀ i, i ≤ k → D i ≤ L) (hk : D k ≠ 0) : WK L g (0, 0) (0, 0) (fun x => x.1 ≤ k ∧ x.2 ≤ D x.1) (2 * g * k + (smf D (k + 1) : Nat)) ∧
    WK L g (0, 0) (0, 0) (fun x => x.1 ≤ k ∧ x.2 ≤ D x.1 ∧ D x.1 ≠ 0) (2 * g * k + ((ctf D (k + 1) - ctf D (k + 1) % 2) * L + (if ctf D (k + 1) % 2 = 0 then 0 else 2 * D k) : Nat)) := by
  have hh : 2 * g * (k : Int) = g * k + g * k := by rw [Int.mul_assoc]; omega
  constructor
  · exact WK_mono (WK_trans (w_back k hD) (w_home k)) (by omega) (fun x hx => Or.inl hx)
  · have e1 : ctf D (k + 1) = ctf D k + 1 := by show ctf D k + (if D k = 0 then 0 else 1) = _; rw [if_neg hk]
    have t := w_through (L := L) (g := g) (D := D) k
    by_cases z : ctf D k % 2 = 0
    · have s : sde L (ctf D k) = 0 := by unfold sde; rw [if_pos z]
      rw [s] at t
      refine WK_mono (WK_trans (WK_trans t (w_exc (hD k (Nat.le_refl _)))) (w_home k)) ?_ (fun x hx => Or.inl ?_)
      · rw [e1, if_neg (by omega), show (ctf D k + 1) % 2 = 1 by omega, Nat.add_sub_cancel, Nat.mul_comm (ctf D k) L]
        push_cast
        omega
      · by_cases y : x.1 = k
        · exact Or.inr ⟨y, by rw [← y]; exact hx.2.1⟩
        · exact Or.inl ⟨by omega, hx.2.2, Nat.le_trans hx.2.1 (hD x.1 hx.1)⟩
    · have s : sde L (ctf D k) = L := by unfold sde; rw [if_neg z]
      rw [s] at t
      refine WK_mono (WK_trans (WK_trans t WK_all.2) (w_home k)) ?_ (fun x hx => Or.inl ?_)
      · rw [e1, if_pos (by omega), show (ctf D k + 1) % 2 = 0 by omega, Nat.sub_zero, Nat.add_mul, Nat.one_mul, Nat.mul_comm (ctf D k) L]
        push_cast
        omega
      · by_cases y : x.1 = k
        · exact Or.inr ⟨y, Nat.le_trans hx.2.1 (hD x.1 hx.1)⟩
        · exact Or.inl ⟨by omega, hx.2.2, Nat.le_trans hx.2.1 (hD x.1 hx.1)⟩
/-- the lengths that the class answers -/
theorem a_rules {v : Int64} {M q G : Nat} {g : Int32} (hG : g = Int32.ofNat G) (hG5 : G ≤ 5) (hq : 1 ≤ q) (hq8 : q ≤ 8) (hM6 : M ≤ 6) (hM : M * q ≤ 48) (hc : cn v (M * q) ≠ 0) : ∃ k, LL v q M k ∧
    (∀ d0 s0 w0, ∃ r d s w', f_X3_through d0 s0 w0 (Int32.ofNat M) (Int32.ofNat q) g v = some (r, d, s, w') ∧ r.toInt = ((2 * G * k + ((ctf (dpf v q) (k + 1) - ctf (dpf v q) (k + 1) % 2) * (q + 1) + (if ctf (dpf v q) (k + 1) % 2 = 0 then 0 else 2 * dpf v q k)) : Nat) : Int)) ∧
    (∀ d0 s0 w0, ∃ r d s w', f_X3_back d0 s0 w0 (Int32.ofNat M) (Int32.ofNat q) g v = some (r, d, s, w') ∧ r.toInt = ((2 * G * k + smf (dpf v q) (k + 1) : Nat) : Int)) := by
  have key : ∀ d0 s0 w0, ∃ k d s w', f_X3_lastLane d0 s0 w0 (Int32.ofNat M) (Int32.ofNat q) v = some (Int32.ofNat k, d, s, w') ∧ LL v q M k := fun d0 s0 w0 => by
    obtain ⟨r, d, s, w', h1, h2⟩ := n_lastLane (v := v) d0 s0 w0 hq hq8 hM6 hM
    rcases h2 with ⟨-, h3⟩ | ⟨k, h2, h3⟩
    · exfalso
      obtain ⟨j, j1, j2, -⟩ := cn_surj (v := v) (M * q) 0 (by omega)
      obtain ⟨a, b⟩ := pk_of hq j1 j2
      exact h3 _ _ a b
    · exact ⟨k, d, s, w', by rw [h1, h2], h3⟩
  have uq : ∀ k k', LL v q M k → LL v q M k' → k = k' := fun k k' h h' => by
    obtain ⟨a1, ⟨p, a2⟩, a3⟩ := h
    obtain ⟨b1, ⟨p', b2⟩, b3⟩ := h'
    apply Classical.byContradiction
    intro z
    rcases Nat.lt_or_gt_of_ne z with y | y
    · exact a3 k' p' y b1 b2
    · exact b3 k p y a1 a2
  obtain ⟨k, -, -, -, -, hk⟩ := key 0 0 0
  have hk2 := hk
  obtain ⟨k1, -, -⟩ := hk2
  have c2 := ctf_le (D := dpf v q) (k + 1)
  have dq : ∀ i, i < k + 1 → dpf v q i ≤ q := fun i hi => (dp_at hq hq8 (lane_in (show i < M by omega) hM)).1.1
  have sm := smf_le (D := dpf v q) (q := q) (k + 1) dq
  have dk := dq k (by omega)
  have s96 : smf (dpf v q) (k + 1) ≤ 96 := by
    have : 2 * q * (k + 1) ≤ 2 * 8 * 6 := Nat.mul_le_mul (by omega) (by omega)
    omega
  have g60 : 2 * G * k ≤ 60 := by
    have : 2 * G * k ≤ 2 * 5 * 6 := Nat.mul_le_mul (by omega) (by omega)
    omega
  have half : Int32.ofNat (ctf (dpf v q) (k + 1)) - Int32.ofNat (ctf (dpf v q) (k + 1)) / 2 * 2 = Int32.ofNat (ctf (dpf v q) (k + 1) % 2) := by
    generalize ctf (dpf v q) (k + 1) = c at *
    have := Nat.div_le_self c 2
    rw [show (2 : Int32) = Int32.ofNat 2 from rfl, on_div (by omega) (by omega) (by omega), on_mulI (by omega) (by omega) (by omega), on_subI (by omega) (by omega), show c - c / 2 * 2 = c % 2 by omega]
  have gk : 2 * g * Int32.ofNat k = Int32.ofNat (2 * G * k) := by
    rw [hG, show (2 : Int32) = Int32.ofNat 2 from rfl, on_mulI (by omega) (by omega) (by omega), on_mulI (by omega) (by omega) (by omega)]
  refine ⟨k, hk, fun d0 s0 w0 => ?_, fun d0 s0 w0 => ?_⟩
  · obtain ⟨k', d, s, w', h1, h2⟩ := key d0 s0 w0
    have := uq _ _ h2 hk
    subst this
    obtain ⟨s', w2, t1⟩ := n_through (v := v) (g := g) (d := d) (s := s) (w0 := w') hq hq8 hM6 hM k1
    unfold f_X3_through
    rw [h1, bnd4_s, if_neg (on_ne1 (by omega)), t1, bnd4_s, half, gk]
    generalize ctf (dpf v q) (k' + 1) = c at *
    have c8 : (c - c % 2) * (q + 1) ≤ 54 := by
      have : (c - c % 2) * (q + 1) ≤ 6 * 9 := Nat.mul_le_mul (by omega) (by omega)
      omega
    have m1 : Int32.ofNat c - Int32.ofNat (c % 2) = Int32.ofNat (c - c % 2) := on_subI (by omega) (by omega)
    have m2 : (Int32.ofNat c - Int32.ofNat (c % 2)) * (Int32.ofNat q + 1) = Int32.ofNat ((c - c % 2) * (q + 1)) := by
      rw [m1, on_inc, on_mulI (by omega) (by omega) (by omega)]
    by_cases hz : c % 2 = 0
    · rw [if_pos (by rw [hz]; rfl), if_pos hz]
      refine ⟨_, _, _, _, rfl, ?_⟩
      rw [m2, on_addI (by omega), on_toI (by omega)]
      omega
    · have e1 : c % 2 = 1 := by omega
      rw [if_neg (by rw [e1]; decide), if_neg hz]
      refine ⟨_, _, _, _, rfl, ?_⟩
      rw [m2, on_addI (by omega), show (2 : Int32) = Int32.ofNat 2 from rfl, on_mulI (by omega) (by omega) (by omega), on_addI (by omega), on_toI (by omega)]
      omega
  · obtain ⟨k', d, s, w', h1, h2⟩ := key d0 s0 w0
    have := uq _ _ h2 hk
    subst this
    obtain ⟨d3, s3, w3, t2⟩ := n_back (v := v) (g := g) (d := d) (s := s) (w0 := w') (x := 2 * g * Int32.ofNat k') hq hq8 hM6 hM k1
    unfold f_X3_back
    rw [h1, bnd4_s, if_neg (on_ne1 (by omega)), t2, bnd4_s]
    refine ⟨_, _, _, _, rfl, ?_⟩
    rw [gk, on_addI (by omega), on_toI (by omega)]
/-! ===== ways tried out ===== -/
theorem wc_ge {L : Nat} {g : Int} (hg : 0 ≤ g) : ∀ (l : List VX) (v : VX), v.2 ≤ L → (∀ x, x ∈ l → x.2 ≤ L) → dst L g v (we v l) ≤ wc L g v l := by
  intro l
  induction l with
  | nil => intro v hv _; show dst L g v v ≤ 0; rw [dst_self]; omega
  | cons x l ih =>
    intro v hv h
    have hx := h x (List.mem_cons_self ..)
    have hl : ∀ y, y ∈ l → y.2 ≤ L := fun y hy => h y (List.mem_cons_of_mem _ hy)
    have a := ih x hx hl
    have e : (we x l).2 ≤ L := by
      rcases we_mem (v := x) l with z | z
      · rw [z]; exact hx
      · exact hl _ z
    have t := dst_tri (L := L) hg hv hx e
    show dst L g v (we x l) ≤ dst L g v x + wc L g x l
    omega
/-- the least way on from v over the points that aren't yet in use, and home -/
def BFP (L n : Nat) (g : Int) (pt : Nat → VX) (s : Nat) (v : VX) (r : Int) : Prop :=
  0 ≤ r ∧ (∃ l, we v l = (0, 0) ∧ wc L g v l = r ∧ (∀ x, x ∈ l → x = (0, 0) ∨ ∃ k, k < n ∧ x = pt k) ∧ ∀ k, k < n → s.testBit k = false → pt k ∈ l) ∧
  ∀ l, we v l = (0, 0) → (∀ x, x ∈ l → x.2 ≤ L) → (∀ k, k < n → s.testBit k = false → pt k ∈ l) → r ≤ wc L g v l
theorem bf_end {L n s : Nat} {g : Int} {pt : Nat → VX} {v : VX} (hg : 0 ≤ g) (hv : v.2 ≤ L) (h : ∀ k, k < n → s.testBit k = true) : BFP L n g pt s v (dst L g v (0, 0)) := by
  refine ⟨dst_nn hg hv (Nat.zero_le _), ⟨[(0, 0)], rfl, ?_, fun x hx => Or.inl (by simpa using hx), fun k hk hb => ?_⟩, fun l e hl _ => ?_⟩
  · show dst L g v (0, 0) + 0 = _; omega
  · rw [h k hk] at hb; exact absurd hb (by decide)
  · have := wc_ge hg l v hv hl
    rw [e] at this
    exact this
theorem l_split {Q : VX → Prop} : ∀ l : List VX, (∃ x, x ∈ l ∧ Q x) → ∃ l1 y l2, l = l1 ++ y :: l2 ∧ Q y ∧ ∀ x, x ∈ l1 → ¬ Q x := by
  intro l
  induction l with
  | nil => rintro ⟨x, hx, -⟩; exact absurd hx (by simp)
  | cons a l ih =>
    rintro ⟨x, hx, qx⟩
    by_cases qa : Q a
    · exact ⟨[], a, l, rfl, qa, fun y hy => absurd hy (by simp)⟩
    · rcases List.mem_cons.mp hx with e | e
      · rw [e] at qx; exact absurd qx qa
      · obtain ⟨l1, y, l2, h1, h2, h3⟩ := ih ⟨x, e, qx⟩
        refine ⟨a :: l1, y, l2, by rw [h1]; rfl, h2, fun z hz => ?_⟩
        rcases List.mem_cons.mp hz with e | e
        · rw [e]; exact qa
        · exact h3 z e
theorem or_bit {s k i : Nat} : (s ||| 2 ^ k).testBit i = (s.testBit i || decide (k = i)) := by
  rw [Nat.testBit_or, p2_bit]
theorem bf_step {L n s : Nat} {g r : Int} {pt : Nat → VX} {v : VX} (hg : 0 ≤ g) (hv : v.2 ≤ L) (hp : ∀ k, k < n → (pt k).2 ≤ L) (inj : ∀ j k, j < n → k < n → pt j = pt k → j = k)
    (ha : ∃ k, k < n ∧ s.testBit k = false ∧ ∃ rk, BFP L n g pt (s ||| 2 ^ k) (pt k) rk ∧ r = dst L g v (pt k) + rk)
    (hb : ∀ k, k < n → s.testBit k = false → ∃ rk, BFP L n g pt (s ||| 2 ^ k) (pt k) rk ∧ r ≤ dst L g v (pt k) + rk) : BFP L n g pt s v r := by
  obtain ⟨k, k1, k2, rk, ⟨b1, ⟨l, l1, l2, l3, l4⟩, -⟩, e⟩ := ha
  refine ⟨?_, ⟨pt k :: l, l1, ?_, fun x hx => ?_, fun i hi hi2 => ?_⟩, fun l' e' hl' hc' => ?_⟩
  · have := dst_nn hg hv (hp k k1)
    omega
  · show dst L g v (pt k) + wc L g (pt k) l = r
    rw [l2, e]
  · rcases List.mem_cons.mp hx with z | z
    · exact Or.inr ⟨k, k1, z⟩
    · exact l3 x z
  · by_cases z : k = i
    · rw [z]; exact List.mem_cons_self ..
    · refine List.mem_cons_of_mem _ (l4 i hi ?_)
      rw [or_bit, hi2, decide_eq_false z]; rfl
  · obtain ⟨m1, y, m2, q1, ⟨i, i1, i2, i3⟩, q3⟩ := l_split (Q := fun x => ∃ i, i < n ∧ s.testBit i = false ∧ x = pt i) l' ⟨pt k, hc' k k1 k2, k, k1, k2, rfl⟩
    subst i3
    obtain ⟨ri, ⟨c1, -, c3⟩, c4⟩ := hb i i1 i2
    have hm1 : ∀ x, x ∈ m1 → x.2 ≤ L := fun x hx => hl' x (by rw [q1]; exact List.mem_append.mpr (Or.inl hx))
    have hm2 : ∀ x, x ∈ m2 → x.2 ≤ L := fun x hx => hl' x (by rw [q1]; exact List.mem_append.mpr (Or.inr (List.mem_cons_of_mem _ hx)))
    have a1 := wc_ge hg m1 v hv hm1
    have e2 : (we v m1).2 ≤ L := by
      rcases we_mem (v := v) m1 with z | z
      · rw [z]; exact hv
      · exact hm1 _ z
    have t := dst_tri (L := L) hg hv e2 (hp i i1)
    have we2 : we (pt i) m2 = (0, 0) := by
      rw [q1, we_app] at e'
      exact e'
    have a2 := c3 m2 we2 hm2 (fun j hj hj2 => by
      rw [or_bit] at hj2
      have s1 : s.testBit j = false := by
        cases z : s.testBit j with
        | false => rfl
        | true => rw [z] at hj2; exact absurd hj2 (by simp)
      have s2 : i ≠ j := fun z => by rw [decide_eq_true z] at hj2; simp at hj2
      have m := hc' j hj s1
      rw [q1] at m
      rcases List.mem_append.mp m with z | z
      · exact absurd ⟨j, hj, s1, rfl⟩ (q3 _ z)
      · rcases List.mem_cons.mp z with w | w
        · exact absurd (inj j i hj i1 w).symm s2
        · exact w)
    rw [q1, wc_app]
    show r ≤ wc L g v m1 + (dst L g (we v m1) (pt i) + wc L g (pt i) m2)
    omega
theorem ab_on {i j : Nat} (hi : i < 1000) (hj : j < 1000) : (if 0 ≤ (Int32.ofNat i - Int32.ofNat j) then (Int32.ofNat i - Int32.ofNat j) else 0 - (Int32.ofNat i - Int32.ofNat j)) = Int32.ofNat (if j ≤ i then i - j else j - i) := by
  have e : (Int32.ofNat i - Int32.ofNat j).toInt = (i : Int) - j := by
    rw [i_sub (by rw [on_toI (by omega), on_toI (by omega)]; omega) (by rw [on_toI (by omega), on_toI (by omega)]; omega), on_toI (by omega), on_toI (by omega)]
  by_cases h : j ≤ i
  · rw [if_pos (by rw [i_le, e, show (0 : Int32).toInt = 0 from rfl]; omega), if_pos h, on_subI h (by omega)]
  · rw [if_neg (by rw [i_le, e, show (0 : Int32).toInt = 0 from rfl]; omega), if_neg h, i_eq, i_sub (by rw [e, show (0 : Int32).toInt = 0 from rfl]; omega) (by rw [e, show (0 : Int32).toInt = 0 from rfl]; omega), e, on_toI (by omega), show (0 : Int32).toInt = 0 from rfl]
    omega
theorem b_dst {i p j r q G : Nat} (hi : i ≤ 6) (hj : j ≤ 6) (hp : p ≤ q + 1) (hr : r ≤ q + 1) (hq8 : q ≤ 8) (hG : G ≤ 5) : ∃ t, f_L_between (Int32.ofNat i) (Int32.ofNat p) (Int32.ofNat j) (Int32.ofNat r) (Int32.ofNat q) (Int32.ofNat G) = some t ∧ t.toInt = dst (q + 1) G (i, p) (j, r) ∧ 0 ≤ t.toInt ∧ t.toInt ≤ 100 := by
  have bd := dst_le (q := q) (g := (G : Int)) (a := (i, p)) (b := (j, r)) (by omega) (by omega) hq8 ⟨hi, hp⟩ ⟨hj, hr⟩
  have lanes : Int32.ofNat i = Int32.ofNat j ↔ i = j := ⟨fun z => by
    have := congrArg Int32.toInt z
    rw [on_toI (by omega), on_toI (by omega)] at this
    omega, fun z => by rw [z]⟩
  suffices h : ∃ t, f_L_between (Int32.ofNat i) (Int32.ofNat p) (Int32.ofNat j) (Int32.ofNat r) (Int32.ofNat q) (Int32.ofNat G) = some t ∧ t.toInt = dst (q + 1) G (i, p) (j, r) by
    obtain ⟨t, h1, h2⟩ := h
    exact ⟨t, h1, h2, by rw [h2]; exact bd.1, by rw [h2]; exact bd.2⟩
  unfold f_L_between
  rw [ab_on (by omega) (by omega), ab_on (by omega) (by omega)]
  unfold dst
  dsimp only
  by_cases hij : i = j
  · rw [if_pos (lanes.mpr hij), if_pos hij]
    refine ⟨_, rfl, ?_⟩
    rw [on_toI (by split <;> omega)]
    split <;> omega
  · rw [if_neg (fun z => hij (lanes.mp z)), if_neg hij]
    refine ⟨_, rfl, ?_⟩
    have s1 : Int32.ofNat p + Int32.ofNat r = Int32.ofNat (p + r) := on_addI (by omega)
    have s2 : 2 * (Int32.ofNat q + 1) - Int32.ofNat p - Int32.ofNat r = Int32.ofNat (2 * (q + 1) - p - r) := by
      rw [on_inc, show (2 : Int32) = Int32.ofNat 2 from rfl, on_mulI (by omega) (by omega) (by omega), on_subI (by omega) (by omega), on_subI (by omega) (by omega)]
    rw [s1, s2]
    generalize hd : (if j ≤ i then i - j else j - i) = d
    have d6 : d ≤ 6 := by rw [← hd]; split <;> omega
    have dz : (if j ≤ i then (i : Int) - j else (j : Int) - i) = (d : Int) := by
      rw [← hd]; split <;> omega
    rw [dz]
    have m : G * d ≤ 5 * 6 := Nat.mul_le_mul hG d6
    have e1 : Int32.ofNat G * Int32.ofNat d = Int32.ofNat (G * d) := on_mulI (by omega) (by omega) (by omega)
    have e2 : (if Int32.ofNat (2 * (q + 1) - p - r) < Int32.ofNat (p + r) then Int32.ofNat (2 * (q + 1) - p - r) else Int32.ofNat (p + r)) = Int32.ofNat (min (2 * (q + 1) - p - r) (p + r)) := by
      by_cases z : 2 * (q + 1) - p - r < p + r
      · rw [if_pos ((on_lt (by omega) (by omega)).mpr z)]; congr 1; omega
      · rw [if_neg (fun y => z ((on_lt (by omega) (by omega)).mp y))]; congr 1; omega
    rw [e1, e2, on_addI (by omega), on_toI (by omega)]
    push_cast
    omega
