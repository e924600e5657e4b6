/-! ===== the places by distance ===== -/
theorem QLs_uniq {c : Int32} {D f g : Nat → Int32} (p : QLs c D f) (q : QLs c D g) : ∀ n : Int32, 0 ≤ n → n < c → ix f n = ix g n := by
  obtain ⟨p1, p2, p3⟩ := p
  obtain ⟨q1, q2, q3⟩ := q
  have a : ∀ (k : Nat) (n : Int32), 0 ≤ n → n < c → n.toNatClampNeg < k → ix f n = ix g n := by
    intro k
    induction k with
    | zero => intro n _ _ h; exact absurd h (Nat.not_lt_zero _)
    | succ k ih =>
      intro n n0 n1 hk
      have ih' : ∀ m : Int32, 0 ≤ m → m < n → ix f m = ix g m := fun m m0 m1 => ih m m0 (by grind) (by have := tn_lt m0 m1; omega)
      obtain ⟨r1, r2⟩ := p1 n n0 n1
      obtain ⟨s1, s2⟩ := q1 n n0 n1
      obtain ⟨m, m0, m1, m2⟩ := q3 (ix f n) r1 r2
      obtain ⟨k2, k0, k1, k3⟩ := p3 (ix g n) s1 s2
      by_cases e1 : m = n
      · rw [← m2, e1]
      · by_cases e2 : m < n
        · have := p2 m n m0 e2 n1
          rw [ih' m m0 e2, m2] at this; grind
        · have e3 : n < m := by grind
          have h1 := q2 n m n0 e3 m1
          rw [m2] at h1
          by_cases e4 : k2 = n
          · rw [← k3, e4]
          · by_cases e5 : k2 < n
            · have := q2 k2 n k0 e5 n1
              rw [← ih' k2 k0 e5, k3] at this; grind
            · have h2 := p2 n k2 n0 (by grind) k1
              rw [k3] at h2; grind
  exact fun n n0 n1 => a (n.toNatClampNeg + 1) n n0 n1 (Nat.lt_succ_self _)
theorem QR_of {plc : Int32} {D pbd near : Nat → Int32} (p : QLs plc D pbd) (q : QLs plc D near) : QR plc pbd near := by
  refine ⟨fun n n0 n1 => ⟨(QLs_uniq p q n n0 n1).symm, p.1 n n0 n1⟩, fun i i0 i1 => ?_⟩
  obtain ⟨n, n0, n1, n2⟩ := p.2.2 i i0 i1
  exact ⟨n, n0, n1, n2⟩
/-- a place's distance -/
def DI (gp pos v : Int32) : Int32 := gp * (v / pos) + (v - v / pos * pos) + 1
def DA (gp pos : Int32) : Nat → Int32 := fun k => DI gp pos (Int32.ofNat k)
theorem DA_ix {gp pos v : Int32} (h : 0 ≤ v) : ix (DA gp pos) v = DI gp pos v := by
  show DI gp pos (Int32.ofNat v.toNatClampNeg) = _
  rw [of_tn h]
theorem upd_self {f : Nat → Int32} {i : Nat} : upd f i (f i) = f := by
  funext j
  unfold upd
  by_cases h : j = i
  · rw [if_pos h, h]
  · rw [if_neg h]
theorem lays_ok {lan pos gp plc : Int32} {w near : Nat → Int32} (hw : w 1 * w 2 = plc) (h2 : w 2 = pos) (h4 : w 4 = gp) (p1 : 1 ≤ pos) (c0 : 0 ≤ plc) (c1 : plc ≤ 48) : ∃ near', f_Y8_laysPlaces w near = some near' ∧ QLs plc (DA gp pos) near' := by
  have dist : ∀ v : Int32, f_Y8_distanceOf v w = some (DI gp pos v) := fun v => (s_dist (v := v) h2 h4 p1).2.1
  obtain ⟨r, r1, r2⟩ := lp_one (f := fun z : Int32 × (Nat → Int32) => f_Y8_laysPlaces_L2 w z.1 z.2) (fun s => 0 ≤ s.1 ∧ s.1 ≤ plc ∧ QLs s.1 (DA gp pos) s.2) (fun e => QLs plc (DA gp pos) e) (fun s => msr s.1 plc) (by
    rintro ⟨n, f⟩ ⟨g1, g2, g3⟩
    dsimp only at g1 g2 g3 ⊢
    unfold f_Y8_laysPlaces_L2
    rw [n_places, hw]
    simp only [bnd1, Option.bind_some]
    by_cases hn : plc ≤ n
    · have : n = plc := by grind
      subst this
      exact Or.inr ⟨f, by rw [if_pos hn], g3⟩
    · left
      have hn' : n < plc := by grind
      obtain ⟨y, y1, y2, y3, y4⟩ := ins_loop60 (c := n) (k := DI gp pos n) (key := DA gp pos) (obd := f) (g := fun z : Int32 × (Nat → Int32) => f_Y8_laysPlaces_L12 n w z.1 z.2) g1 (by grind) g3 (by
        intro m f hm
        dsimp only
        unfold f_Y8_laysPlaces_L12
        rw [if_pos hm]) (by
        intro m f hm hc b0 b1
        dsimp only
        have nn : ¬ m ≤ 0 := by grind
        have n0 : 0 ≤ m - 1 := by grind
        have n1 : m - 1 < 48 := by grind
        have n2 : 0 ≤ m := by grind
        have n3 : m < 48 := by grind
        unfold f_Y8_laysPlaces_L12
        rw [if_neg nn, gd_48 n0 n1, dist, dist]
        simp only [bnd1, Option.bind_some]
        rw [gd_48 n0 n1, gd_48 n2 n3, DA_ix b0])
      refine ⟨(n + 1, upd y.2 y.1.toNatClampNeg n), ?_, ⟨by dsimp only; grind, by dsimp only; grind, ?_⟩, msr_lt hn'⟩
      · rw [if_neg hn, y1]
        simp only [bnd2, Option.bind_some]
        rw [gd_48 y2 (by grind)]
      · dsimp only
        have e : upd (DA gp pos) n.toNatClampNeg (DI gp pos n) = DA gp pos := by
          have := DA_ix (gp := gp) (pos := pos) g1
          rw [← this]; exact upd_self
        rw [e] at y4; exact y4) fu (0, near) ⟨by dsimp only; decide, c0, fun n n0 n1 => absurd n1 (by dsimp only; grind), fun a b a0 ab bc => absurd bc (by dsimp only; grind), fun l l0 l1 => absurd l1 (by dsimp only; grind)⟩ (msr_fu (by dsimp only; decide) (by grind))
  exact ⟨r, by unfold f_Y8_laysPlaces; rw [r1]; rfl, r2⟩
theorem isum_lt {F G : Int32 → Int32} {N p : Int32} (hN : N ≤ 1000) (h0 : 0 ≤ p) (h1 : p < N) (h : ∀ n : Int32, 0 ≤ n → n < N → 0 ≤ F n ∧ F n ≤ G n ∧ G n ≤ 1) (hp : F p < G p) : isum F N.toNatClampNeg < isum G N.toNatClampNeg := by
  have hN' : N.toNatClampNeg ≤ 1000 := by
    rw [i_le, show (1000 : Int32).toInt = 1000 from rfl] at hN
    rw [i_tn]; omega
  have hpn : p.toNatClampNeg < N.toNatClampNeg := tn_lt h0 h1
  have a : ∀ k : Nat, k ≤ N.toNatClampNeg → 0 ≤ (isum F k).toInt ∧ (isum G k).toInt ≤ k ∧ (isum F k).toInt + (if p.toNatClampNeg < k then 1 else 0) ≤ (isum G k).toInt := by
    intro k
    induction k with
    | zero => intro _; rw [if_neg (by omega)]; unfold isum; rw [show (0 : Int32).toInt = 0 from rfl]; omega
    | succ k ih =>
      intro hk
      obtain ⟨h2, h3, h4⟩ := of_rng (show k < N.toNatClampNeg by omega)
      obtain ⟨e1, e2, e3⟩ := h _ h2 h3
      rw [i_le] at e1 e2 e3
      rw [show (0 : Int32).toInt = 0 from rfl] at e1
      rw [show (1 : Int32).toInt = 1 from rfl] at e3
      obtain ⟨g1, g2, g3⟩ := ih (by omega)
      unfold isum
      by_cases e : Int32.ofNat k = p
      · have e5 : p.toNatClampNeg = k := by rw [← e]; exact h4
        rw [i_lt] at hp
        rw [if_neg (by omega)] at g3
        rw [if_pos (by omega), i_add (by omega) (by omega), i_add (by omega) (by omega), e]
        rw [e] at e1 e2 e3
        omega
      · have e5 : p.toNatClampNeg ≠ k := fun z => e (by rw [← z]; exact of_tn h0)
        by_cases e6 : p.toNatClampNeg < k
        · rw [if_pos e6] at g3
          rw [if_pos (by omega), i_add (by omega) (by omega), i_add (by omega) (by omega)]
          omega
        · rw [if_neg e6] at g3
          rw [if_neg (by omega), i_add (by omega) (by omega), i_add (by omega) (by omega)]
          omega
  obtain ⟨-, -, z⟩ := a _ (Nat.le_refl _)
  rw [if_pos hpn] at z
  rw [i_lt]; omega
theorem isum_1 {plc : Int32} (h0 : 0 ≤ plc) (h1 : plc ≤ 48) : isum (fun _ => (1 : Int32)) plc.toNatClampNeg = plc := by
  have : ∀ k : Nat, k ≤ plc.toNatClampNeg → isum (fun _ => (1 : Int32)) k = Int32.ofNat k := by
    intro k
    induction k with
    | zero => intro _; rfl
    | succ k ih =>
      intro hk
      unfold isum
      rw [ih (by omega)]
      obtain ⟨h2, h3, h4⟩ := of_rng (show k < plc.toNatClampNeg by omega)
      have h5 := tn_inc h2 (by grind)
      rw [h4] at h5
      have h6 : Int32.ofNat (Int32.ofNat k + 1).toNatClampNeg = Int32.ofNat k + 1 := of_tn (by grind)
      rw [h5] at h6
      exact h6.symm
  rw [this _ (Nat.le_refl _), of_tn h0]
/-- how many places come before a distance and a number -/
def bef (D : Nat → Int32) (d n : Int32) (i : Int32) : Int32 := if ix D i < d ∨ (ix D i = d ∧ i < n) then 1 else 0
theorem bef_rng {D : Nat → Int32} {d n i : Int32} : 0 ≤ bef D d n i ∧ bef D d n i ≤ 1 := by
  unfold bef
  by_cases h : ix D i < d ∨ (ix D i = d ∧ i < n)
  · rw [if_pos h]; exact ⟨by decide, by decide⟩
  · rw [if_neg h]; exact ⟨by decide, by decide⟩
/-- the class's row, so far -/
def BS (plc cnt d n : Int32) (D f : Nat → Int32) : Prop := cnt = isum (bef D d n) plc.toNatClampNeg ∧ 0 ≤ cnt ∧ cnt ≤ plc ∧ (∀ a : Int32, 0 ≤ a → a < cnt → 0 ≤ ix f a ∧ ix f a < plc ∧ (ix D (ix f a) < d ∨ (ix D (ix f a) = d ∧ ix f a < n))) ∧
  (∀ a b : Int32, 0 ≤ a → a < b → b < cnt → ix D (ix f a) < ix D (ix f b) ∨ (ix D (ix f a) = ix D (ix f b) ∧ ix f a < ix f b)) ∧ ∀ i : Int32, 0 ≤ i → i < plc → (ix D i < d ∨ (ix D i = d ∧ i < n)) → ∃ a : Int32, 0 ≤ a ∧ a < cnt ∧ ix f a = i
theorem BS.eqv {plc cnt d n d' n' : Int32} {D f : Nat → Int32} (q : BS plc cnt d n D f) (h : ∀ i : Int32, 0 ≤ i → i < plc → ((ix D i < d ∨ (ix D i = d ∧ i < n)) ↔ (ix D i < d' ∨ (ix D i = d' ∧ i < n')))) : BS plc cnt d' n' D f := by
  obtain ⟨q1, q2, q3, q4, q5, q6⟩ := q
  refine ⟨?_, q2, q3, ?_, q5, ?_⟩
  · rw [q1]
    refine isum_eq (fun i i0 i1 => ?_)
    unfold bef
    by_cases hh : ix D i < d ∨ (ix D i = d ∧ i < n)
    · rw [if_pos hh, if_pos ((h i i0 i1).mp hh)]
    · rw [if_neg hh, if_neg (fun z => hh ((h i i0 i1).mpr z))]
  · intro a a0 a1
    obtain ⟨b1, b2, b3⟩ := q4 a a0 a1
    exact ⟨b1, b2, (h _ b1 b2).mp b3⟩
  · intro i i0 i1 hi
    exact q6 i i0 i1 ((h i i0 i1).mpr hi)
theorem BS.room {plc cnt d n : Int32} {D f : Nat → Int32} (q : BS plc cnt d n D f) (hc : plc ≤ 48) (h0 : 0 ≤ n) (h1 : n < plc) (hd : ix D n = d) : cnt < plc := by
  obtain ⟨q1, q2, q3, -⟩ := q
  have a := isum_lt (F := bef D d n) (G := fun _ => 1) (N := plc) (p := n) (by grind) h0 h1 (fun i i0 i1 => ⟨bef_rng.1, bef_rng.2, by decide⟩) (by unfold bef; rw [if_neg (by grind)]; decide)
  rw [isum_1 (by grind) hc] at a
  grind
theorem BS.step {plc cnt d n : Int32} {D f : Nat → Int32} (q : BS plc cnt d n D f) (hc : plc ≤ 48) (h0 : 0 ≤ n) (h1 : n < plc) (hd : ix D n = d) : BS plc (cnt + 1) d (n + 1) D (upd f cnt.toNatClampNeg n) := by
  have hr := q.room hc h0 h1 hd
  obtain ⟨q1, q2, q3, q4, q5, q6⟩ := q
  have u : ∀ a : Int32, 0 ≤ a → ix (upd f cnt.toNatClampNeg n) a = if a = cnt then n else ix f a := fun a a0 => upd_at q2 a0
  refine ⟨?_, by grind, by grind, ?_, ?_, ?_⟩
  · rw [isum_upd (F := bef D d n) h0 h1, q1]
    · have e1 : bef D d (n + 1) n = 1 := by unfold bef; rw [if_pos (Or.inr ⟨hd, by grind⟩)]
      have e2 : bef D d n n = 0 := by unfold bef; rw [if_neg (by grind)]
      rw [e1, e2]; rfl
    · intro i i0 i1 i2
      unfold bef
      by_cases hh : ix D i < d ∨ (ix D i = d ∧ i < n)
      · rw [if_pos hh, if_pos (by grind)]
      · rw [if_neg hh, if_neg (by grind)]
  · intro a a0 a1
    rw [u a a0]
    by_cases ha : a = cnt
    · rw [if_pos ha]; exact ⟨h0, h1, Or.inr ⟨hd, by grind⟩⟩
    · rw [if_neg ha]
      obtain ⟨b1, b2, b3⟩ := q4 a a0 (by grind)
      exact ⟨b1, b2, b3.elim Or.inl (fun z => Or.inr ⟨z.1, by grind⟩)⟩
  · intro a b a0 ab b1
    rw [u a a0, u b (by grind), if_neg (show ¬ a = cnt by grind)]
    by_cases hb : b = cnt
    · rw [if_pos hb]
      obtain ⟨b1, b2, b3⟩ := q4 a a0 (by grind)
      rw [hd]; exact b3
    · rw [if_neg hb]; exact q5 a b a0 ab (by grind)
  · intro i i0 i1 hi
    by_cases hin : i = n
    · exact ⟨cnt, q2, by grind, by rw [u cnt q2, if_pos rfl, hin]⟩
    · obtain ⟨a, a0, a1, a2⟩ := q6 i i0 i1 (by grind)
      exact ⟨a, a0, by grind, by rw [u a a0, if_neg (by grind), a2]⟩
theorem sort_ok {lan pos gp plc top : Int32} {f : Nat → Int32} (p1 : 1 ≤ pos) (c0 : 0 ≤ plc) (c1 : plc ≤ 48) (t0 : 0 ≤ top) (t1 : top ≤ 1000) (hD : ∀ v : Int32, f_X5_distanceOf v pos gp = some (DI gp pos v)) (h1 : ∀ i : Int32, 0 ≤ i → i < plc → 1 ≤ DI gp pos i ∧ DI gp pos i ≤ top) (ht : gp * lan + pos = top) : ∃ f', f_X5_sortByDistance lan pos gp plc f = some f' ∧ QLs plc (DA gp pos) f' := by
  have hA : ∀ i : Int32, 0 ≤ i → ix (DA gp pos) i = DI gp pos i := fun i i0 => DA_ix i0
  have hb : BS plc 0 1 0 (DA gp pos) f := by
    have no : ∀ i : Int32, 0 ≤ i → i < plc → ¬ (ix (DA gp pos) i < 1 ∨ (ix (DA gp pos) i = 1 ∧ i < 0)) := fun i i0 i1 => by
      rw [hA i i0]; have := h1 i i0 i1; grind
    refine ⟨?_, by decide, c0, fun a a0 a1 => absurd a1 (by grind), fun a b a0 ab b1 => absurd b1 (by grind), fun i i0 i1 hi => absurd hi (no i i0 i1)⟩
    rw [isum_eq (G := fun _ => 0 * 0) (fun i i0 i1 => by unfold bef; rw [if_neg (no i i0 i1)]; rfl), isum_mul, Int32.zero_mul]
  obtain ⟨r, r1, r2⟩ := lp_one (f := fun z : Int32 × Int32 × (Nat → Int32) => f_X5_sortByDistance_L19 top lan pos gp plc z.1 z.2.1 z.2.2) (fun s => 1 ≤ s.2.1 ∧ s.2.1 ≤ top + 1 ∧ BS plc s.1 s.2.1 0 (DA gp pos) s.2.2) (fun e => QLs plc (DA gp pos) e) (fun s => msr s.2.1 (top + 1)) (by
    rintro ⟨cnt, d, f⟩ ⟨g1, g2, g3⟩
    dsimp only at g1 g2 g3 ⊢
    unfold f_X5_sortByDistance_L19
    by_cases hn : top < d
    · right
      refine ⟨f, by rw [if_pos hn], ?_⟩
      obtain ⟨q1, q2, q3, q4, q5, q6⟩ := g3
      have all : ∀ i : Int32, 0 ≤ i → i < plc → ix (DA gp pos) i < d ∨ (ix (DA gp pos) i = d ∧ i < 0) := fun i i0 i1 => by
        rw [hA i i0]; have := h1 i i0 i1; left; grind
      have hc : cnt = plc := by
        by_cases e : cnt = plc
        · exact e
        · exfalso
          have hall : isum (bef (DA gp pos) d 0) plc.toNatClampNeg = isum (fun _ => 1) plc.toNatClampNeg := isum_eq (fun i i0 i1 => by unfold bef; rw [if_pos (all i i0 i1)])
          have b : isum (fun _ => (1 : Int32)) plc.toNatClampNeg = plc := isum_1 c0 c1
          rw [hall, b] at q1
          exact e q1
      subst hc
      exact ⟨fun n n0 n1 => ⟨(q4 n n0 n1).1, (q4 n n0 n1).2.1⟩, q5, fun l l0 l1 => q6 l l0 l1 (all l l0 l1)⟩
    · left
      have hd : d ≤ top := by grind
      obtain ⟨y, y1, y2⟩ := lp_one (f := fun z : Int32 × Int32 × (Nat → Int32) => f_X5_sortByDistance_L27 top d lan pos gp plc z.1 z.2.1 z.2.2) (fun s => 0 ≤ s.2.1 ∧ s.2.1 ≤ plc ∧ BS plc s.1 d s.2.1 (DA gp pos) s.2.2) (fun e => BS plc e.1 d plc (DA gp pos) e.2) (fun s => msr s.2.1 plc) (by
        rintro ⟨cnt, n, f⟩ ⟨k1, k2, k3⟩
        dsimp only at k1 k2 k3 ⊢
        unfold f_X5_sortByDistance_L27 f_X5_sortByDistance_L27_J65
        by_cases hh : plc ≤ n
        · have : n = plc := by grind
          subst this
          exact Or.inr ⟨(cnt, f), by rw [if_pos hh], k3⟩
        · have hh' : n < plc := by grind
          by_cases hc : plc ≤ cnt
          · refine Or.inr ⟨(cnt, f), by rw [if_neg hh, if_pos hc], k3.eqv (fun i i0 i1 => ?_)⟩
            by_cases hi : ix (DA gp pos) i = d ∧ n ≤ i
            · exfalso
              -- a place of this distance is still to come: then there was room
              obtain ⟨q1, q2, q3, -⟩ := k3
              have a := isum_lt (F := bef (DA gp pos) d n) (G := fun _ => 1) (N := plc) (p := i) (by grind) i0 i1 (fun i i0 i1 => ⟨bef_rng.1, bef_rng.2, by decide⟩) (by unfold bef; rw [if_neg (by grind)]; decide)
              rw [isum_1 c0 c1] at a
              grind
            · grind
          · left
            by_cases e : DI gp pos n = d
            · refine ⟨(cnt + 1, n + 1, upd f cnt.toNatClampNeg n), ?_, ⟨by dsimp only; grind, by dsimp only; grind, k3.step c1 k1 hh' (by rw [hA n k1]; exact e)⟩, msr_lt hh'⟩
              rw [if_neg hh, if_neg hc, hD]
              simp only [bnd1, Option.bind_some]
              rw [if_pos e, gd_48 (by exact k3.2.1) (by grind)]
            · refine ⟨(cnt, n + 1, f), ?_, ⟨by dsimp only; grind, by dsimp only; grind, k3.eqv (fun i i0 i1 => ?_)⟩, msr_lt hh'⟩
              · rw [if_neg hh, if_neg hc, hD]
                simp only [bnd1, Option.bind_some]
                rw [if_neg e]
              · dsimp only
                have e2 : i = n → ¬ ix (DA gp pos) i = d := fun z => by rw [z, hA n k1]; exact e
                constructor
                · rintro (z | ⟨z1, z2⟩)
                  · exact Or.inl z
                  · exact Or.inr ⟨z1, by clear h1 hA hD; grind⟩
                · rintro (z | ⟨z1, z2⟩)
                  · exact Or.inl z
                  · by_cases hin : i = n
                    · exact absurd z1 (e2 hin)
                    · exact Or.inr ⟨z1, by clear h1 hA hD; grind⟩) fu (cnt, 0, f) ⟨by dsimp only; decide, c0, g3⟩ (msr_fu (by dsimp only; decide) (by grind))
      refine ⟨(y.1, d + 1, y.2), ?_, ⟨by dsimp only; grind, by dsimp only; grind, ?_⟩, msr_lt (by grind)⟩
      · rw [if_neg hn, y1]; rfl
      · refine y2.eqv (fun i i0 i1 => ?_)
        dsimp only
        grind) fu (0, 1, f) ⟨by dsimp only; decide, by dsimp only; grind, hb⟩ (msr_fu (by dsimp only; decide) (by grind))
  refine ⟨r, ?_, r2⟩
  unfold f_X5_sortByDistance
  rw [ht, r1]; rfl
theorem i_div {a b : Int32} (ha : 0 ≤ a.toInt) (hb : 1 ≤ b.toInt) : (a / b).toInt = a.toInt / b.toInt := by
  have h1 := fb_rng a
  have b1 : 0 ≤ a.toInt / b.toInt := Int.ediv_nonneg ha (by omega)
  have b2 : a.toInt / b.toInt ≤ a.toInt := Int.ediv_le_self _ ha
  rw [Int32.toInt_div, Int.tdiv_eq_ediv_of_nonneg ha]
  exact Int.bmod_eq_of_le (by omega) (by omega)
/-- the distances' range -/
theorem DI_rng {lan pos gp i : Int32} (l1 : 1 ≤ lan) (l2 : lan ≤ 6) (p1 : 1 ≤ pos) (p2 : pos ≤ 8) (g1 : 1 ≤ gp) (g2 : gp ≤ 5) (i0 : 0 ≤ i) (i1 : i < lan * pos) : 1 ≤ DI gp pos i ∧ DI gp pos i ≤ gp * lan + pos ∧ gp * lan + pos ≤ 1000 := by
  have hlp : lan = 1 ∨ lan = 2 ∨ lan = 3 ∨ lan = 4 ∨ lan = 5 ∨ lan = 6 := by grind
  have e1 : (1 : Int32).toInt = 1 := rfl
  rw [i_le] at l1 l2 p1 p2 g1 g2 i0
  rw [e1] at l1 p1 g1
  rw [show (6 : Int32).toInt = 6 from rfl] at l2
  rw [show (8 : Int32).toInt = 8 from rfl] at p2
  rw [show (5 : Int32).toInt = 5 from rfl] at g2
  rw [show (0 : Int32).toInt = 0 from rfl] at i0
  have m1 : lan.toInt * pos.toInt ≤ 6 * 8 := Int.mul_le_mul l2 p2 (by omega) (by omega)
  have m2 : 0 ≤ lan.toInt * pos.toInt := Int.mul_nonneg (by omega) (by omega)
  rw [i_lt, i_mul (by omega) (by omega)] at i1
  have q0 : (i / pos).toInt = i.toInt / pos.toInt := i_div i0 p1
  have q1 : 0 ≤ i.toInt / pos.toInt := Int.ediv_nonneg i0 (by omega)
  have q2 : i.toInt / pos.toInt < lan.toInt := Int.ediv_lt_of_lt_mul (by omega) i1
  have q3 : i.toInt / pos.toInt * pos.toInt ≤ i.toInt := Int.ediv_mul_le _ (by omega)
  have q4 : i.toInt < (i.toInt / pos.toInt + 1) * pos.toInt := Int.lt_ediv_add_one_mul_self _ (by omega)
  rw [Int.add_mul, Int.one_mul] at q4
  generalize i.toInt / pos.toInt = q at *
  have m3 : 0 ≤ gp.toInt * q := Int.mul_nonneg (by omega) q1
  have m4 : gp.toInt * q ≤ gp.toInt * (lan.toInt - 1) := Int.mul_le_mul_of_nonneg_left (by omega) (by omega)
  have m5 : gp.toInt * (lan.toInt - 1) = gp.toInt * lan.toInt - gp.toInt := by rw [Int.mul_sub, Int.mul_one]
  have m6 : gp.toInt * lan.toInt ≤ 5 * 6 := Int.mul_le_mul g2 l2 (by omega) (by omega)
  have m7 : 0 ≤ gp.toInt * lan.toInt := Int.mul_nonneg (by omega) (by omega)
  have m8 : 0 ≤ q * pos.toInt := Int.mul_nonneg q1 (by omega)
  have e2 : (gp * lan + pos).toInt = gp.toInt * lan.toInt + pos.toInt := by rw [i_add, i_mul (by omega) (by omega)] <;> rw [i_mul (by omega) (by omega)] <;> omega
  have e3 : (gp * (i / pos)).toInt = gp.toInt * q := by rw [i_mul (by rw [q0]; omega) (by rw [q0]; omega), q0]
  have e4 : (i / pos * pos).toInt = q * pos.toInt := by rw [i_mul (by rw [q0]; omega) (by rw [q0]; omega), q0]
  have e5 : (i - i / pos * pos).toInt = i.toInt - q * pos.toInt := by rw [i_sub (by omega) (by omega), e4]
  have e6 : (DI gp pos i).toInt = gp.toInt * q + (i.toInt - q * pos.toInt) + 1 := by
    unfold DI
    rw [i_add, i_add (by omega) (by omega), e3, e5]
    · rfl
    · rw [i_add (by omega) (by omega), e3, e5, e1]; omega
    · rw [i_add (by omega) (by omega), e3, e5, e1]; omega
  refine ⟨?_, ?_, ?_⟩
  · rw [i_le, e6, e1]; omega
  · rw [i_le, e6, e2]; omega
  · rw [i_le, e2, show (1000 : Int32).toInt = 1000 from rfl]; omega
