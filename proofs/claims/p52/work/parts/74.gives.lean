/-! ===== a lot is given to an order, both sides ===== -/
def gv (w : Nat → Int32) (o l p t : Int32) : Nat → Int32 := upd (upd (upd (upd (upd (upd (upd w (63 + p).toNatClampNeg (ix w (63 + p) - t)) (15 + p).toNatClampNeg (if ix w (63 + p) - t = 0 then -1 else ix w (15 + p))) (111 + p).toNatClampNeg 2) (159 + p).toNatClampNeg 1) (383 + o).toNatClampNeg (ix w (383 + o) - t)) (503 + 24 * o + l).toNatClampNeg (ix w (503 + 24 * o + l) + t)) (10 : Int32).toNatClampNeg (ix w 10 + t)
theorem gv_at {w : Nat → Int32} {o l p t i : Int32} (o0 : 0 ≤ o) (o1 : o < 40) (l0 : 0 ≤ l) (l1 : l < 24) (p0 : 0 ≤ p) (p1 : p < 48) (i0 : 0 ≤ i) : ix (gv w o l p t) i = if i = 10 then ix w 10 + t else if i = 503 + 24 * o + l then ix w (503 + 24 * o + l) + t else if i = 383 + o then ix w (383 + o) - t else if i = 159 + p then 1 else if i = 111 + p then 2 else if i = 15 + p then (if ix w (63 + p) - t = 0 then -1 else ix w (15 + p)) else if i = 63 + p then ix w (63 + p) - t else ix w i := by
  unfold gv
  show upd _ _ _ i.toNatClampNeg = _
  rw [upd_at (by decide) i0, upd_at (by grind) i0, upd_at (by grind) i0, upd_at (by grind) i0, upd_at (by grind) i0, upd_at (by grind) i0, upd_at (by grind) i0]
theorem n_gv {o l n p t : Int32} {w near : Nat → Int32} (o0 : 0 ≤ o) (o1 : o < 40) (l0 : 0 ≤ l) (l1 : l < 24) (p0 : 0 ≤ p) (p1 : p < 48) (ht : 1 ≤ t) : f_Y8_gives_L35_J115 o l n p t w near = some (.inl (n + 1, gv w o l p t)) := by
  have h : ¬ t ≤ 0 := by grind
  unfold f_Y8_gives_L35_J115 f_Y8_gives_L35_J200
  rw [if_neg h, n_takes p0 p1]
  simp only [bnd1, Option.bind_some]
  rw [gd_2450 (by grind) (by grind), gd_2450 (by grind) (by grind), gd_2450 (by grind) (by grind), gd_2450 (by grind) (by grind), gd_2450 (by grind) (by grind), gd_2450 (by grind) (by grind), gd_2450 (by decide) (by decide), gd_2450 (by decide) (by decide)]
  have e1 : ∀ x : Int32, upd (upd (upd (upd w (63 + p).toNatClampNeg (ix w (63 + p) - t)) (15 + p).toNatClampNeg x) (111 + p).toNatClampNeg 2) (159 + p).toNatClampNeg 1 (383 + o).toNatClampNeg = ix w (383 + o) := fun x => by
    rw [upd_ne (by grind) (by grind) (by grind), upd_ne (by grind) (by grind) (by grind), upd_ne (by grind) (by grind) (by grind), upd_ne (by grind) (by grind) (by grind)]
  have e2 : ∀ x y : Int32, upd (upd (upd (upd (upd w (63 + p).toNatClampNeg (ix w (63 + p) - t)) (15 + p).toNatClampNeg x) (111 + p).toNatClampNeg 2) (159 + p).toNatClampNeg 1) (383 + o).toNatClampNeg y (503 + 24 * o + l).toNatClampNeg = ix w (503 + 24 * o + l) := fun x y => by
    rw [upd_ne (by grind) (by grind) (by grind), upd_ne (by grind) (by grind) (by grind), upd_ne (by grind) (by grind) (by grind), upd_ne (by grind) (by grind) (by grind), upd_ne (by grind) (by grind) (by grind)]
  have e3 : ∀ x y z : Int32, upd (upd (upd (upd (upd (upd w (63 + p).toNatClampNeg (ix w (63 + p) - t)) (15 + p).toNatClampNeg x) (111 + p).toNatClampNeg 2) (159 + p).toNatClampNeg 1) (383 + o).toNatClampNeg y) (503 + 24 * o + l).toNatClampNeg z (10 : Int32).toNatClampNeg = ix w 10 := fun x y z => by
    rw [upd_ne (by grind) (by decide) (by grind), upd_ne (by grind) (by decide) (by grind), upd_ne (by grind) (by decide) (by grind), upd_ne (by grind) (by decide) (by grind), upd_ne (by grind) (by decide) (by grind), upd_ne (by grind) (by decide) (by grind)]
  rw [e1, e2, e3]
  rfl
/-- the same indices outside what a gift changes -/
def GO (o l : Int32) (w w' : Nat → Int32) : Prop := ∀ i : Int32, 0 ≤ i → i < 2450 → i ≠ 10 → (i < 15 ∨ 207 ≤ i) → i ≠ 383 + o → i ≠ 503 + 24 * o + l → ix w' i = ix w i
theorem pof_ge {plc rom lcn l p : Int32} {plot ppc pmk w : Nat → Int32} (h0 : 0 ≤ plc) (h1 : plc ≤ 48) (hr : rom ≤ 20) (hr0 : 1 ≤ rom) (hP : QP plc rom lcn plot ppc pmk w) (p0 : 0 ≤ p) (p1 : p < plc) (hl : 1 ≤ ix ppc p ∧ ix plot p = l) : ix ppc p ≤ pof plc plot ppc l ∧ pof plc plot ppc l ≤ 960 := by
  have a := isum_upd (F := fun n => if n = p then 0 else if 1 ≤ ix ppc n ∧ ix plot n = l then ix ppc n else 0) (G := fun n => if 1 ≤ ix ppc n ∧ ix plot n = l then ix ppc n else 0) p0 p1 (fun n _ _ n2 => by rw [if_neg n2])
  have b := isum_rng (F := fun n => if n = p then 0 else if 1 ≤ ix ppc n ∧ ix plot n = l then ix ppc n else 0) (N := plc) (b := 20) (by decide) (by grind) (by decide) (fun n n0 n1 => by
    obtain ⟨-, -, -, z4, z5, -⟩ := hP n n0 n1
    by_cases hh : n = p
    · rw [if_pos hh]; exact ⟨by decide, by decide⟩
    · rw [if_neg hh]
      by_cases h2 : 1 ≤ ix ppc n ∧ ix plot n = l
      · rw [if_pos h2]; exact ⟨z4, by grind⟩
      · rw [if_neg h2]; exact ⟨by decide, by decide⟩)
  have c := pof_rng (l := l) h0 h1 hr hr0 hP
  obtain ⟨-, -, -, z4, z5, -⟩ := hP p p0 p1
  rw [if_pos rfl, Int32.sub_zero, if_pos hl] at a
  have h48 := i_le.mp h1
  rw [show (48 : Int32).toInt = 48 from rfl] at h48
  have e : plc.toNatClampNeg = plc.toInt.toNat := rfl
  have hp : pof plc plot ppc l = isum (fun n => if 1 ≤ ix ppc n ∧ ix plot n = l then ix ppc n else 0) plc.toNatClampNeg := rfl
  rw [hp] at c ⊢
  rw [a] at c ⊢
  generalize isum (fun n => if n = p then 0 else if 1 ≤ ix ppc n ∧ ix plot n = l then ix ppc n else 0) plc.toNatClampNeg = Z at *
  rw [show (20 : Int32).toInt = 20 from rfl] at b
  have z1 : 0 ≤ Z := by rw [i_le]; exact b.1
  have z2 : Z ≤ 960 := by rw [i_le]; show _ ≤ (960 : Int); omega
  have z3 : Z + ix ppc p ≤ 960 := by rw [i_le]; exact c.2
  exact ⟨by grind, z3⟩
theorem pof_0 {plc l : Int32} {plot ppc : Nat → Int32} (h : ∀ p : Int32, 0 ≤ p → p < plc → ix plot p ≠ l) : pof plc plot ppc l = 0 := by
  unfold pof
  rw [isum_eq (G := fun _ => 0) (fun p p0 p1 => by rw [if_neg (fun z => h p p0 p1 z.2)]), isum_z]
theorem pof_take {plc l p x : Int32} {plot ppc : Nat → Int32} (p0 : 0 ≤ p) (p1 : p < plc) (h1 : 1 ≤ ix ppc p) (h2 : ix plot p = l) (hl : 0 ≤ l) (hx : 0 ≤ x) : pof plc (upd plot p.toNatClampNeg (if x = 0 then -1 else l)) (upd ppc p.toNatClampNeg x) l = pof plc plot ppc l - ix ppc p + x ∧ ∀ l2 : Int32, 0 ≤ l2 → l2 ≠ l → pof plc (upd plot p.toNatClampNeg (if x = 0 then -1 else l)) (upd ppc p.toNatClampNeg x) l2 = pof plc plot ppc l2 := by
  have u1 : ∀ n : Int32, 0 ≤ n → n ≠ p → ix (upd plot p.toNatClampNeg (if x = 0 then -1 else l)) n = ix plot n := fun n n0 n1 => upd_ne p0 n0 n1
  have u2 : ∀ n : Int32, 0 ≤ n → n ≠ p → ix (upd ppc p.toNatClampNeg x) n = ix ppc n := fun n n0 n1 => upd_ne p0 n0 n1
  have v1 : ix (upd plot p.toNatClampNeg (if x = 0 then -1 else l)) p = if x = 0 then -1 else l := upd_same
  have v2 : ix (upd ppc p.toNatClampNeg x) p = x := upd_same
  constructor
  · unfold pof
    rw [isum_upd (F := fun n => if 1 ≤ ix ppc n ∧ ix plot n = l then ix ppc n else 0) p0 p1 (fun n n0 _ n2 => by rw [u1 n n0 n2, u2 n n0 n2]), v1, v2]
    have key : (if 1 ≤ x ∧ (if x = 0 then -1 else l) = l then x else 0) = x := by
      by_cases hz : x = 0
      · rw [if_neg (fun z => absurd z.1 (by rw [hz]; decide)), hz]
      · rw [if_pos ⟨by grind, if_neg hz⟩]
    rw [key, if_pos ⟨h1, h2⟩]
    generalize isum (fun n => if 1 ≤ ix ppc n ∧ ix plot n = l then ix ppc n else 0) plc.toNatClampNeg = Z
    clear u1 u2
    grind
  · intro l2 l20 l21
    unfold pof
    refine isum_eq (fun n n0 n1 => ?_)
    by_cases hn : n = p
    · subst hn
      rw [v1, v2]
      have e1 : ¬ (1 ≤ ix ppc n ∧ ix plot n = l2) := fun z => l21 (by rw [← z.2]; exact h2)
      have e2 : ¬ (1 ≤ x ∧ (if x = 0 then -1 else l) = l2) := by
        by_cases hz : x = 0
        · exact fun z => absurd z.1 (by rw [hz]; decide)
        · rw [if_neg hz]; exact fun z => l21 z.2.symm
      rw [if_neg e1, if_neg e2]
    · rw [u1 n n0 hn, u2 n n0 hn]
/-- nothing is left to give: the model's walk goes on idle -/
theorem gives_idle {plc rom lcn o l : Int32} {plot ppc pmk w near : Nat → Int32} (h0 : 0 ≤ plc) (h1 : plc ≤ 48) (hw : w 1 * w 2 = plc) (hP : QP plc rom lcn plot ppc pmk w) (o0 : 0 ≤ o) (o1 : o < 40) (hl : 0 ≤ l) (hn : ∀ n : Int32, 0 ≤ n → n < plc → 0 ≤ ix near n ∧ ix near n < plc) (hr : ix w (383 + o) = 0 ∨ ∀ p : Int32, 0 ≤ p → p < plc → ix plot p ≠ l) :
    ∀ (m : Nat) (n : Int32), 0 ≤ n → n ≤ plc → msr n plc < m → loop (fun z : Int32 × (Nat → Int32) => f_Y8_gives_L35 o l near z.1 z.2) m (n, w) = some w := by
  intro m n n0 n1 hm
  obtain ⟨e, e1, e2⟩ := lp_one (f := fun z : Int32 × (Nat → Int32) => f_Y8_gives_L35 o l near z.1 z.2) (fun s => s.2 = w ∧ 0 ≤ s.1 ∧ s.1 ≤ plc) (fun e => e = w) (fun s => msr s.1 plc) (by
    rintro ⟨n, w'⟩ ⟨g1, g3, g4⟩
    dsimp only at g1 g3 g4 ⊢
    subst g1
    unfold f_Y8_gives_L35
    rw [n_places, hw]
    simp only [bnd1, Option.bind_some]
    by_cases hh : plc ≤ n
    · exact Or.inr ⟨_, by rw [if_pos hh], rfl⟩
    · left
      have hn' : n < plc := by grind
      obtain ⟨b1, b2⟩ := hn n g3 hn'
      have b3 : near n.toNatClampNeg = ix near n := rfl
      obtain ⟨y1, y2, y3, y4, y5, y6⟩ := hP _ b1 b2
      have y1' : w' (15 + ix near n).toNatClampNeg = ix plot (ix near n) := y1
      have y2' : w' (63 + ix near n).toNatClampNeg = ix ppc (ix near n) := y2
      have key : ∀ t : Int32, t ≤ 0 → f_Y8_gives_L35_J115 o l n (ix near n) t w' near = some (.inl (n + 1, w')) := by
        intro t ht
        unfold f_Y8_gives_L35_J115 f_Y8_gives_L35_J200
        rw [if_pos ht]
      refine ⟨(n + 1, w'), ?_, ⟨rfl, by dsimp only; grind, by dsimp only; grind⟩, msr_lt hn'⟩
      rw [if_neg hh, gd_48 g3 (by grind), b3, gd_2450 (by grind) (by grind), y1']
      by_cases hx : ix plot (ix near n) = l
      · have h2 : w' (383 + o).toNatClampNeg = 0 := by
          rcases hr with z | z
          · exact z
          · exact absurd hx (z _ b1 b2)
        rw [if_pos hx, gd_2450 (by grind) (by grind), gd_2450 (by grind) (by grind), h2, y2', if_pos y4, gd_2450 (by grind) (by grind), key 0 (by decide)]
      · rw [if_neg hx, key 0 (by decide)]) m (n, w) ⟨rfl, n0, n1⟩ hm
  rw [e1, e2]
theorem shl_bit {p : Int32} (h0 : 0 ≤ p) (h1 : p < 48) : ∃ k : Nat, k < 48 ∧ p = Int32.ofNat k := by
  refine ⟨p.toNatClampNeg, ?_, (of_tn h0).symm⟩
  rw [i_lt, show (48 : Int32).toInt = 48 from rfl] at h1
  rw [i_tn]; omega
/-- a place's bit is set -/
theorem QK_set {plc p : Int32} {pkd : Int64} {w w' : Nat → Int32} (q : QK plc pkd w) (p0 : 0 ≤ p) (p1 : p < plc) (hc : plc ≤ 48) (h : ∀ n : Int32, 0 ≤ n → n < 48 → ix w' (159 + n) = if n = p then 1 else ix w (159 + n)) : QK plc (pkd ||| ((1 : Int64) <<< (p.toInt64 &&& 63))) w' := by
  obtain ⟨q1, q2⟩ := q
  obtain ⟨k, k1, rfl⟩ := shl_bit p0 (show p < 48 by grind)
  have tab : ∀ k, k < 48 → ((1 : Int64) <<< ((Int32.ofNat k).toInt64 &&& 63)).toBitVec >>> 48 = 0#64 := by decide
  have tab2 : ∀ k, k < 48 → ∀ n, n < 48 → ((((1 : Int64) <<< ((Int32.ofNat k).toInt64 &&& 63)) >>> (Int32.ofNat n).toInt64) &&& 1) = if n = k then 1 else 0 := by decide +kernel
  have hsr : ∀ (a b : Int64) (n : Nat), n < 48 → ((a ||| b) >>> (Int32.ofNat n).toInt64) &&& 1 = ((a >>> (Int32.ofNat n).toInt64) &&& 1) ||| ((b >>> (Int32.ofNat n).toInt64) &&& 1) := by
    intro a b n hn
    refine Int64.toBitVec_inj.mp ?_
    simp only [Int64.toBitVec_and, Int64.toBitVec_or, Int64.toBitVec_shiftRight, sm_at n hn]
    rw [BitVec.sshiftRight_eq', BitVec.sshiftRight_eq', BitVec.sshiftRight_eq', BitVec.sshiftRight_or_distrib]
    ext i
    simp only [BitVec.getElem_and, BitVec.getElem_or]
    cases (BitVec.sshiftRight a.toBitVec (BitVec.ofNat 64 n).toNat)[i] <;> cases (BitVec.sshiftRight b.toBitVec (BitVec.ofNat 64 n).toNat)[i] <;> cases ((1 : Int64).toBitVec)[i] <;> rfl
  refine ⟨?_, ?_⟩
  · rw [Int64.toBitVec_or, BitVec.ushiftRight_or_distrib, q1, tab k k1]; rfl
  · intro n n0 n1
    obtain ⟨j, j1, rfl⟩ := shl_bit n0 n1
    have hj : (Int32.ofNat j = Int32.ofNat k) ↔ j = k := by
      constructor
      · intro z
        have := congrArg Int32.toInt z
        rw [i_of (by omega), i_of (by omega)] at this
        omega
      · intro z; rw [z]
    rw [h _ n0 n1, hsr _ _ j j1, tab2 k k1 j j1]
    by_cases e : j = k
    · subst e
      rw [if_pos rfl, if_pos rfl]
      refine Or.inr ⟨rfl, ?_, p1⟩
      rcases q2 _ n0 n1 with ⟨-, z⟩ | ⟨-, z, -⟩ <;> rw [z] <;> decide
    · rw [if_neg (fun z => e (hj.mp z)), if_neg e]
      rcases q2 _ n0 n1 with ⟨z1, z2⟩ | ⟨z1, z2, z3⟩
      · exact Or.inl ⟨z1, by rw [z2]; decide⟩
      · exact Or.inr ⟨z1, by rw [z2]; decide, z3⟩
/-- the gift -/
theorem s_gives {o l part op plc rom lcn : Int32} {pkd : Int64} {plot ppc pmk pbd near w : Nat → Int32} (h1 : 1 ≤ plc) (h2 : plc ≤ 48) (r1 : 1 ≤ rom) (r2 : rom ≤ 20) (hw : w 1 * w 2 = plc) (hP : QP plc rom lcn plot ppc pmk w) (hK : QK plc pkd w) (hR : QR plc pbd near) (o0 : 0 ≤ o) (o1 : o < 40) (l0 : 0 ≤ l) (l1 : l < lcn) (lc : lcn ≤ 24)
    (hop : ix w (383 + o) = op) (op1 : 1 ≤ op) (op2 : op ≤ 50) (hc : 1 ≤ pof plc plot ppc l) (hp : part = if pof plc plot ppc l < op then pof plc plot ppc l else op) :
    ∃ pk' l' p' k' w', f_X5_pick l part plc pkd plot ppc pmk pbd = some (pk', l', p', k') ∧ f_Y8_gives o l w near = some w' ∧ QP plc rom lcn l' p' k' w' ∧ QK plc pk' w' ∧ ix w' (383 + o) = op - part ∧ ix w' (503 + 24 * o + l) = ix w (503 + 24 * o + l) + part ∧ ix w' 10 = ix w 10 + part ∧
      ix w' 8 = ix w 8 + 1 ∧ ix w' (1463 + 24 * o + l) = ix w 8 + 1 ∧ (∀ i : Int32, 0 ≤ i → i < 2450 → i ≠ 8 → i ≠ 1463 + 24 * o + l → i ≠ 10 → (i < 15 ∨ 207 ≤ i) → i ≠ 383 + o → i ≠ 503 + 24 * o + l → ix w' i = ix w i) ∧
      pof plc l' p' l = pof plc plot ppc l - part ∧ (∀ l2 : Int32, 0 ≤ l2 → l2 ≠ l → pof plc l' p' l2 = pof plc plot ppc l2) ∧ isum (ix p') plc.toNatClampNeg = isum (ix ppc) plc.toNatClampNeg - part := by
  have p0 : 0 ≤ plc := by grind
  have hpart : 1 ≤ part ∧ part ≤ op ∧ part ≤ pof plc plot ppc l ∧ (part = op ∨ part = pof plc plot ppc l) := by
    by_cases h : pof plc plot ppc l < op
    · rw [if_pos h] at hp; exact ⟨by grind, by grind, by grind, Or.inr hp⟩
    · rw [if_neg h] at hp; exact ⟨by grind, by grind, by grind, Or.inl hp⟩
  clear hp
  obtain ⟨t1, t2, t3, t4⟩ := hpart
  have c960 : pof plc plot ppc l ≤ 960 := by
    have := (pof_rng (l := l) p0 h2 r2 r1 hP).2
    rw [i_le]; exact this
  generalize hcc : pof plc plot ppc l = c0 at *
  have e8 : upd w (8 : Int32).toNatClampNeg (w (8 : Int32).toNatClampNeg + 1) (8 : Int32).toNatClampNeg = ix w 8 + 1 := upd_same
  have hws : ∃ ws, ws = upd (upd w (8 : Int32).toNatClampNeg (w (8 : Int32).toNatClampNeg + 1)) (1463 + 24 * o + l).toNatClampNeg (ix w 8 + 1) := ⟨_, rfl⟩
  obtain ⟨ws, hws⟩ := hws
  have wsat : ∀ i : Int32, 0 ≤ i → ix ws i = if i = 1463 + 24 * o + l then ix w 8 + 1 else if i = 8 then ix w 8 + 1 else ix w i := fun i i0 => by
    rw [hws]
    show upd _ _ _ i.toNatClampNeg = _
    rw [upd_at (by grind) i0, upd_at (by decide) i0]
  have wsAG : ∀ A B : Int32, 0 ≤ A → B ≤ 1463 → (B ≤ 8 ∨ 9 ≤ A) → AG A B w ws := fun A B hA hB h i i0 i1 => by
    rw [wsat i (by grind), if_neg (show ¬ i = 1463 + 24 * o + l by grind), if_neg (show ¬ i = 8 by grind)]
  have hws12 : ws 1 * ws 2 = plc := by
    have z1 : ws 1 = w 1 := wsAG 1 3 (by decide) (by decide) (by decide) 1 (by decide) (by decide)
    have z2 : ws 2 = w 2 := wsAG 1 3 (by decide) (by decide) (by decide) 2 (by decide) (by decide)
    rw [z1, z2]; exact hw
  have hPs := QP_ag h2 (wsAG 15 159 (by decide) (by decide) (by decide)) hP
  have hKs := QK_ag (wsAG 159 207 (by decide) (by decide) (by decide)) hK
  have hops : ix ws (383 + o) = op := by rw [wsat _ (by grind), if_neg (by grind), if_neg (by grind)]; exact hop
  have hnear : ∀ n : Int32, 0 ≤ n → n < plc → 0 ≤ ix near n ∧ ix near n < plc := fun n n0 n1 => by
    obtain ⟨a, b, c⟩ := hR.1 n n0 n1
    rw [a]; exact ⟨b, c⟩
  obtain ⟨w', e, q1, q2, q3, q4, q5, q6, q7, q8, q9, q10, q11⟩ := lp_tail (f := fun z : Int32 × (Nat → Int32) => f_Y8_gives_L35 o l near z.1 z.2) (g := fun z : Int32 × Int32 × Int64 × (Nat → Int32) × (Nat → Int32) × (Nat → Int32) => f_X5_pick_L5 l plc pbd z.1 z.2.1 z.2.2.1 z.2.2.2.1 z.2.2.2.2.1 z.2.2.2.2.2)
    (fun s t => s.1 = t.2.1 ∧ 0 ≤ s.1 ∧ s.1 ≤ plc ∧ 0 ≤ t.1 ∧ t.1 ≤ part ∧ QP plc rom lcn t.2.2.2.1 t.2.2.2.2.1 t.2.2.2.2.2 s.2 ∧ QK plc t.2.2.1 s.2 ∧ ix s.2 (383 + o) = op - (part - t.1) ∧ ix s.2 (503 + 24 * o + l) = ix ws (503 + 24 * o + l) + (part - t.1) ∧ ix s.2 10 = ix ws 10 + (part - t.1) ∧ GO o l ws s.2 ∧
      pof plc t.2.2.2.1 t.2.2.2.2.1 l = c0 - (part - t.1) ∧ (∀ l2 : Int32, 0 ≤ l2 → l2 ≠ l → pof plc t.2.2.2.1 t.2.2.2.2.1 l2 = pof plc plot ppc l2) ∧ isum (ix t.2.2.2.2.1) plc.toNatClampNeg = isum (ix ppc) plc.toNatClampNeg - (part - t.1) ∧
      (0 < t.1 → ∀ m : Int32, 0 ≤ m → m < s.1 → ix t.2.2.2.1 (ix pbd m) ≠ l))
    (fun d e => QP plc rom lcn e.2.1 e.2.2.1 e.2.2.2 d ∧ QK plc e.1 d ∧ ix d (383 + o) = op - part ∧ ix d (503 + 24 * o + l) = ix ws (503 + 24 * o + l) + part ∧ ix d 10 = ix ws 10 + part ∧ GO o l ws d ∧
      pof plc e.2.1 e.2.2.1 l = c0 - part ∧ (∀ l2 : Int32, 0 ≤ l2 → l2 ≠ l → pof plc e.2.1 e.2.2.1 l2 = pof plc plot ppc l2) ∧ isum (ix e.2.2.1) plc.toNatClampNeg = isum (ix ppc) plc.toNatClampNeg - part) (fun z => msr z.1 plc) (by
    rintro ⟨n', w'⟩ ⟨lf, n, pk, a, b, c⟩ ⟨x1, g1, g2, g3, g4, g5, g6, g7, g8, g9, g10, g11, g12, g13, g14⟩
    dsimp only at x1 g1 g2 g3 g4 g5 g6 g7 g8 g9 g10 g11 g12 g13 g14 ⊢
    subst x1
    have hw' : w' 1 * w' 2 = plc := by
      have e1 : w' 1 = ws 1 := g10 1 (by decide) (by decide) (by decide) (by decide) (by grind) (by grind)
      have e2 : w' 2 = ws 2 := g10 2 (by decide) (by decide) (by decide) (by decide) (by grind) (by grind)
      rw [e1, e2]; exact hws12
    by_cases hn : plc ≤ n'
    · have hz : lf = 0 := by
        by_cases hz : 0 < lf
        · exfalso
          have : pof plc a b l = 0 := pof_0 (fun p q0 q1 => by
            obtain ⟨m, m0, m1, m2⟩ := hR.2 p q0 q1
            rw [← m2]; exact g14 hz m m0 (by grind))
          rw [this] at g11
          grind
        · grind
      rw [hz, Int32.sub_zero] at g7 g8 g9 g11 g13
      refine Or.inr ⟨w', (pk, a, b, c), ?_, fun m hm => ?_, g5, g6, g7, g8, g9, g10, g11, g12, g13⟩
      · unfold f_X5_pick_L5; rw [if_pos hn]
      · obtain ⟨m', rfl⟩ : ∃ m', m = m' + 1 := ⟨m - 1, by omega⟩
        have : f_Y8_gives_L35 o l near n' w' = some (.inr w') := by
          unfold f_Y8_gives_L35
          rw [n_places, hw']
          simp only [bnd1, Option.bind_some]
          rw [if_pos hn]
        simp only [loop, this]
    · have hn' : n' < plc := by grind
      by_cases hz : lf ≤ 0
      · have hz0 : lf = 0 := by grind
        rw [hz0, Int32.sub_zero] at g7 g8 g9 g11 g13
        refine Or.inr ⟨w', (pk, a, b, c), ?_, fun m hm => ?_, g5, g6, g7, g8, g9, g10, g11, g12, g13⟩
        · unfold f_X5_pick_L5; rw [if_neg hn, if_pos hz]
        · refine gives_idle p0 h2 hw' g5 o0 o1 l0 hnear ?_ m n' g1 g2 hm
          rcases t4 with z | z
          · left; rw [g7, z]; exact Int32.sub_self _
          · right
            intro p q0 q1 hpl
            obtain ⟨-, -, -, y4, y5, y6⟩ := g5 p q0 q1
            have h3 : 1 ≤ ix b p := by
              rcases y6 with y | y
              · rw [y.2] at hpl; exact absurd l0 (by rw [← hpl]; decide)
              · exact y.1
            have := (pof_ge p0 h2 r2 r1 g5 q0 q1 ⟨h3, hpl⟩).1
            rw [g11, z] at this
            grind
      · left
        have hz' : 0 < lf := by grind
        obtain ⟨b1, b2, b3⟩ := hR.1 n' g1 hn'
        have b4 : near n'.toNatClampNeg = ix pbd n' := b1
        have b5 : pbd n'.toNatClampNeg = ix pbd n' := rfl
        obtain ⟨c1, c2, c3, c4, c5, c6⟩ := g5 (ix pbd n') b2 b3
        have c1' : w' (15 + ix pbd n').toNatClampNeg = ix a (ix pbd n') := c1
        have c2' : w' (63 + ix pbd n').toNatClampNeg = ix b (ix pbd n') := c2
        by_cases hf : ix a (ix pbd n') = l
        · have h3 : 1 ≤ ix b (ix pbd n') := by
            rcases c6 with y | y
            · rw [y.2] at hf; exact absurd l0 (by rw [← hf]; decide)
            · exact y.1
          obtain ⟨pg1, pg2⟩ := pof_ge p0 h2 r2 r1 g5 b2 b3 ⟨h3, hf⟩
          rw [g11] at pg1
          have ht : ∃ t, t = (if ix b (ix pbd n') < lf then ix b (ix pbd n') else lf) ∧ t = (if ix w' (383 + o) ≤ ix b (ix pbd n') then ix w' (383 + o) else ix b (ix pbd n')) ∧ 1 ≤ t ∧ t ≤ lf ∧ t ≤ ix b (ix pbd n') ∧ (0 < lf - t → t = ix b (ix pbd n')) := by
            refine ⟨_, rfl, ?_, ?_⟩
            · rw [g7]
              rcases t4 with z | z
              · by_cases e1 : ix b (ix pbd n') < lf
                · rw [if_pos e1, if_neg (by grind)]
                · rw [if_neg e1, if_pos (by grind)]; grind
              · by_cases e1 : ix b (ix pbd n') < lf
                · rw [if_pos e1]
                  by_cases e2 : op - (part - lf) ≤ ix b (ix pbd n')
                  · rw [if_pos e2]; grind
                  · rw [if_neg e2]
                · rw [if_neg e1]
                  by_cases e2 : op - (part - lf) ≤ ix b (ix pbd n')
                  · rw [if_pos e2]; grind
                  · rw [if_neg e2]; grind
            · by_cases e1 : ix b (ix pbd n') < lf
              · rw [if_pos e1]; exact ⟨h3, by grind, by grind, fun _ => rfl⟩
              · rw [if_neg e1]; exact ⟨by grind, by grind, by grind, fun z => absurd z (by rw [Int32.sub_self]; decide)⟩
          obtain ⟨t, tc, tm, ta, tb, td, te⟩ := ht
          have hx0 : 0 ≤ ix b (ix pbd n') - t := by grind
          have hm1 : 111 + ix pbd n' < 159 := by grind
          obtain ⟨pt1, pt2⟩ := pof_take (plot := a) (ppc := b) (x := ix b (ix pbd n') - t) b2 b3 h3 hf l0 hx0
          have gat : ∀ i : Int32, 0 ≤ i → _ := fun i i0 => gv_at (w := w') (o := o) (l := l) (p := ix pbd n') (t := t) (i := i) o0 o1 l0 (by grind) b2 (by grind) i0
          refine ⟨(n' + 1, gv w' o l (ix pbd n') t), (lf - t, n' + 1, pk ||| ((1 : Int64) <<< ((ix pbd n').toInt64 &&& 63)), upd a (ix pbd n').toNatClampNeg (if ix b (ix pbd n') - t = 0 then -1 else l), upd b (ix pbd n').toNatClampNeg (ix b (ix pbd n') - t), upd c (ix pbd n').toNatClampNeg 2), ?_, ?_, ⟨rfl, by dsimp only; grind, by dsimp only; grind, by dsimp only; grind, by dsimp only; grind, ?_, ?_, ?_, ?_, ?_, ?_, ?_, ?_, ?_, ?_⟩, msr_lt hn'⟩
          · unfold f_Y8_gives_L35
            rw [n_places, hw']
            simp only [bnd1, Option.bind_some]
            have tm' : (if w' (383 + o).toNatClampNeg ≤ ix b (ix pbd n') then w' (383 + o).toNatClampNeg else ix b (ix pbd n')) = t := tm.symm
            rw [if_neg hn, gd_48 g1 (by grind), b4, gd_2450 (by grind) (by grind), c1', if_pos hf, gd_2450 (by grind) (by grind), gd_2450 (by grind) (by grind), c2', gd_2450 (by grind) (by grind)]
            by_cases e1 : w' (383 + o).toNatClampNeg ≤ ix b (ix pbd n')
            · rw [if_pos e1] at tm' ⊢
              rw [tm', n_gv o0 o1 l0 (by grind) b2 (by grind) ta]
            · rw [if_neg e1] at tm' ⊢
              rw [tm', gd_2450 (by grind) (by grind), n_gv o0 o1 l0 (by grind) b2 (by grind) ta]
          · unfold f_X5_pick_L5 f_X5_pick_L5_J86
            have b6 : b (ix pbd n').toNatClampNeg = ix b (ix pbd n') := rfl
            rw [if_neg hn, if_neg hz, gd_48 g1 (by grind), b5, n_isWith _ _ _ _ _ h2 b2 b3, if_pos ⟨h3, hf⟩]
            simp only [bnd1, Option.bind_some]
            rw [if_neg one_ne, gd_48 b2 (by grind), gd_48 b2 (by grind), b6, ← tc, n_set h2 b2 b3]
            rfl
          · dsimp only
            refine QP_set h2 g5 b2 b3 hx0 (by grind) ?_ ?_ ?_ ?_ ?_
            · by_cases hx : ix b (ix pbd n') - t = 0
              · exact Or.inl ⟨hx, if_pos hx⟩
              · rw [if_neg hx]; exact Or.inr ⟨by grind, l0, l1⟩
            · rw [gat _ (by grind), c2, c1, hf, if_neg (by grind), if_neg (by grind), if_neg (by grind), if_neg (by grind), if_neg (by grind), if_pos rfl]
            · rw [gat _ (by grind), c2, if_neg (by grind), if_neg (by grind), if_neg (by grind), if_neg (by grind), if_neg (by grind), if_neg (by grind), if_pos rfl]
            · rw [gat _ (by grind), if_neg (by grind), if_neg (by grind), if_neg (by grind), if_neg (by grind), if_pos rfl]
            · intro m m0 m1 m2
              refine ⟨?_, ?_, ?_⟩ <;> (rw [gat _ (by grind), if_neg (by grind), if_neg (by grind), if_neg (by grind), if_neg (by grind), if_neg (by grind), if_neg (by grind), if_neg (by grind)])
          · dsimp only
            refine QK_set g6 b2 b3 h2 (fun m m0 m1 => ?_)
            rw [gat _ (by grind), if_neg (by grind), if_neg (by grind), if_neg (by grind)]
            by_cases hm : m = ix pbd n'
            · rw [if_pos (by rw [hm]), if_pos hm]
            · rw [if_neg (by grind), if_neg (by grind), if_neg (by grind), if_neg (by grind), if_neg hm]
          · dsimp only
            rw [gat _ (by grind), if_neg (by grind), if_neg (by grind), if_pos rfl, g7]; grind
          · dsimp only
            rw [gat _ (by grind), if_neg (by grind), if_pos rfl, g8]; grind
          · dsimp only
            rw [gat _ (by grind), if_pos rfl, g9]; grind
          · intro i i0 i1 i2 i3 i4 i5
            dsimp only
            rw [gat i i0, if_neg i2, if_neg i5, if_neg i4, if_neg (by grind), if_neg (by grind), if_neg (by grind), if_neg (by grind)]
            exact g10 i i0 i1 i2 i3 i4 i5
          · dsimp only; rw [pt1, g11]; grind
          · intro l2 z1 z2
            dsimp only
            rw [pt2 l2 z1 z2]; exact g12 l2 z1 z2
          · dsimp only
            rw [isum_upd (F := ix b) b2 b3 (fun m m0 m1 m2 => upd_ne b2 m0 m2), g13]
            show _ + (upd b (ix pbd n').toNatClampNeg (ix b (ix pbd n') - t) (ix pbd n').toNatClampNeg - _) = _
            rw [upd_same]; grind
          · intro z m m0 m1
            dsimp only at z m1 ⊢
            have u1 : ix (upd a (ix pbd n').toNatClampNeg (if ix b (ix pbd n') - t = 0 then -1 else l)) (ix pbd m) = if ix pbd m = ix pbd n' then (if ix b (ix pbd n') - t = 0 then -1 else l) else ix a (ix pbd m) := upd_at b2 (hR.1 m m0 (by grind)).2.1
            rw [u1]
            by_cases hpp : ix pbd m = ix pbd n'
            · rw [if_pos hpp, te z, if_pos (Int32.sub_self _)]
              exact fun y => absurd l0 (by rw [← y]; decide)
            · rw [if_neg hpp]
              refine g14 hz' m m0 ?_
              have : m ≠ n' := fun z => hpp (by rw [z])
              grind
        · refine ⟨(n' + 1, w'), (lf, n' + 1, pk, a, b, c), ?_, ?_, ⟨rfl, by dsimp only; grind, by dsimp only; grind, g3, g4, g5, g6, g7, g8, g9, g10, g11, g12, g13, ?_⟩, msr_lt hn'⟩
          · unfold f_Y8_gives_L35 f_Y8_gives_L35_J115 f_Y8_gives_L35_J200
            rw [n_places, hw']
            simp only [bnd1, Option.bind_some]
            rw [if_neg hn, gd_48 g1 (by grind), b4, gd_2450 (by grind) (by grind), c1', if_neg hf, if_pos (by decide)]
          · unfold f_X5_pick_L5 f_X5_pick_L5_J86
            rw [if_neg hn, if_neg hz, gd_48 g1 (by grind), b5, n_isWith _ _ _ _ _ h2 b2 b3, if_neg (fun z => hf z.2)]
            rfl
          · intro z m m0 m1
            dsimp only at z m1 ⊢
            by_cases hm : m = n'
            · rw [hm]; exact hf
            · exact g14 z m m0 (by grind)) fu (0, ws) (part, 0, pkd, plot, ppc, pmk) ⟨rfl, by dsimp only; decide, p0, by dsimp only; grind, by dsimp only; grind, hPs, hKs, by dsimp only; rw [Int32.sub_self, Int32.sub_zero]; exact hops, by dsimp only; rw [Int32.sub_self, Int32.add_zero], by dsimp only; rw [Int32.sub_self, Int32.add_zero], fun _ _ _ _ _ _ _ => rfl, by dsimp only; rw [Int32.sub_self, Int32.sub_zero]; exact hcc, fun _ _ _ => rfl, by dsimp only; rw [Int32.sub_self, Int32.sub_zero], fun _ m m0 m1 => absurd m1 (by dsimp only; grind)⟩ (msr_fu (by dsimp only; decide) (by grind))
  obtain ⟨pk', l', p', k'⟩ := e
  dsimp only at q3 q4 q5 q6 q7 q8 q9 q10 q11
  refine ⟨pk', l', p', k', w', ?_, ?_, q3, q4, q5, ?_, ?_, ?_, ?_, ?_, q9, q10, q11⟩
  · unfold f_X5_pick; rw [q2]; rfl
  · unfold f_Y8_gives
    rw [gd_2450 (by decide) (by decide), gd_2450 (by decide) (by decide), gd_2450 (by decide) (by decide), gd_2450 (by grind) (by grind), e8, ← hws, q1]; rfl
  · rw [q6, wsat _ (by grind), if_neg (by grind), if_neg (by grind)]
  · rw [q7, wsat _ (by decide), if_neg (by grind), if_neg (by decide)]
  · rw [q8 8 (by decide) (by decide) (by decide) (by decide) (by grind) (by grind), wsat _ (by decide), if_neg (by grind), if_pos rfl]
  · rw [q8 _ (by grind) (by grind) (by grind) (by grind) (by grind) (by grind), wsat _ (by grind), if_pos rfl]
  · intro i i0 i1 i2 i3 i4 i5 i6 i7
    rw [q8 i i0 i1 i4 i5 i6 i7, wsat i i0, if_neg i3, if_neg i2]
