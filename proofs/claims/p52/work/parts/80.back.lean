/-! ===== giveBack: room where the lot is ===== -/
def rbs (plc rom : Int32) (plot ppc : Nat → Int32) (l : Int32) : Int32 := isum (fun n => if 1 ≤ ix ppc n ∧ ix plot n = l then rom - ix ppc n else 0) plc.toNatClampNeg
theorem n_roomBeside {plc rom l : Int32} {plot ppc : Nat → Int32} (h0 : 0 ≤ plc) (h1 : plc ≤ 48) : f_X5_roomBeside l rom plc plot ppc = some (rbs plc rom plot ppc l) := by
  unfold f_X5_roomBeside
  rw [sum_loop (F := fun n => if 1 ≤ ix ppc n ∧ ix plot n = l then rom - ix ppc n else 0) (g := fun z : Int32 × Int32 => f_X5_roomBeside_L4 l rom plc plot ppc z.1 z.2) h0 (by grind) (fun a n n0 n1 => by
    dsimp only
    unfold f_X5_roomBeside_L4 f_X5_roomBeside_L4_J35
    by_cases hn : plc ≤ n
    · rw [if_pos hn, if_pos hn]
    · rw [if_neg hn, if_neg hn, n_isWith n l plc plot ppc h1 n0 (by grind)]
      simp only [bnd1, Option.bind_some]
      by_cases hz : 1 ≤ ix ppc n ∧ ix plot n = l
      · rw [if_pos hz, if_pos hz, if_neg one_ne, gd_48 n0 (by grind)]
      · rw [if_neg hz, if_neg hz, if_pos rfl, Int32.add_zero])]
  rfl
theorem rbs_eq {plc rom l : Int32} {plot ppc a b : Nat → Int32} (h : ∀ n : Int32, 0 ≤ n → n < plc → (ix a n = ix plot n ∧ ix b n = ix ppc n) ∨ (¬ (1 ≤ ix ppc n ∧ ix plot n = l) ∧ ¬ (1 ≤ ix b n ∧ ix a n = l))) : rbs plc rom a b l = rbs plc rom plot ppc l := by
  unfold rbs
  refine isum_eq (fun n n0 n1 => ?_)
  rcases h n n0 n1 with ⟨e1, e2⟩ | ⟨e1, e2⟩
  · rw [e1, e2]
  · rw [if_neg e1, if_neg e2]
theorem rbs_rng {plc rom lcn l : Int32} {plot ppc pmk w : Nat → Int32} (h1 : plc ≤ 48) (r1 : 1 ≤ rom) (r2 : rom ≤ 20) (h0 : 0 ≤ plc) (hP : QP plc rom lcn plot ppc pmk w) : 0 ≤ rbs plc rom plot ppc l ∧ rbs plc rom plot ppc l ≤ 960 := by
  obtain ⟨a, b⟩ := isum_rng (F := fun n => if 1 ≤ ix ppc n ∧ ix plot n = l then rom - ix ppc n else 0) (N := plc) (b := 20) (by decide) (by grind) (by decide) (fun n n0 n1 => by
    obtain ⟨-, -, -, p1, p2, -⟩ := hP n n0 n1
    by_cases h : 1 ≤ ix ppc n ∧ ix plot n = l
    · rw [if_pos h]; exact ⟨by grind, by grind⟩
    · rw [if_neg h]; exact ⟨by decide, by decide⟩)
  rw [i_le] at h1
  rw [show (48 : Int32).toInt = 48 from rfl] at h1
  rw [show (20 : Int32).toInt = 20 from rfl] at b
  have e : plc.toNatClampNeg = plc.toInt.toNat := rfl
  unfold rbs
  rw [i_le, i_le, show (0 : Int32).toInt = 0 from rfl, show (960 : Int32).toInt = 960 from rfl]
  omega
theorem rbs_0 {plc rom l : Int32} {plot ppc : Nat → Int32} (h : ∀ n : Int32, 0 ≤ n → n < plc → 1 ≤ ix ppc n → ix plot n = l → ix ppc n = rom) : rbs plc rom plot ppc l = 0 := by
  unfold rbs
  have : isum (fun n => if 1 ≤ ix ppc n ∧ ix plot n = l then rom - ix ppc n else 0) plc.toNatClampNeg = isum (fun n => (0 : Int32) * 0) plc.toNatClampNeg := isum_eq (fun n n0 n1 => by
    by_cases z : 1 ≤ ix ppc n ∧ ix plot n = l
    · rw [if_pos z, h n n0 n1 z.1 z.2]; grind
    · rw [if_neg z]; rfl)
  rw [this, isum_mul, Int32.zero_mul]
theorem rbs_upd {plc rom l p x : Int32} {plot ppc : Nat → Int32} (h0 : 0 ≤ p) (h1 : p < plc) (hp : ix plot p = l) (hx : 1 ≤ ix ppc p) (hx2 : 1 ≤ x) : rbs plc rom (upd plot p.toNatClampNeg l) (upd ppc p.toNatClampNeg x) l = rbs plc rom plot ppc l - (x - ix ppc p) := by
  unfold rbs
  rw [isum_upd (F := fun n => if 1 ≤ ix ppc n ∧ ix plot n = l then rom - ix ppc n else 0) h0 h1]
  · have e : ix (upd ppc p.toNatClampNeg x) p = x := upd_same
    have e2 : ix (upd plot p.toNatClampNeg l) p = l := upd_same
    rw [e, e2, if_pos ⟨hx2, rfl⟩, if_pos ⟨hx, hp⟩]; grind
  · intro n n0 n1 n2
    have e : ix (upd ppc p.toNatClampNeg x) n = ix ppc n := upd_ne h0 n0 n2
    have e2 : ix (upd plot p.toNatClampNeg l) n = ix plot n := upd_ne h0 n0 n2
    rw [e, e2]
theorem frs_same {plc : Int32} {ppc b : Nat → Int32} (h : ∀ n : Int32, 0 ≤ n → n < plc → (ix b n = 0 ↔ ix ppc n = 0)) : frs plc b = frs plc ppc := by
  unfold frs
  refine isum_eq (fun n n0 n1 => ?_)
  by_cases z : ix ppc n = 0
  · rw [if_pos z, if_pos ((h n n0 n1).mpr z)]
  · rw [if_neg z, if_neg (fun y => z ((h n n0 n1).mp y))]
/-- pieces are put where their lot is, both sides -/
theorem s_beside {q l k plc rom lcn : Int32} {plot ppc pmk pbd near w : Nat → Int32} (h1 : 1 ≤ plc) (h2 : plc ≤ 48) (r1 : 1 ≤ rom) (r2 : rom ≤ 20) (hw : w 1 * w 2 = plc) (hr : w 3 = rom) (hP : QP plc rom lcn plot ppc pmk w) (hR : QR plc pbd near) (l0 : 0 ≤ l) (l1 : l < lcn) (q0 : 0 ≤ q) (q1 : q ≤ 100) :
    ∃ r l' p' k' w', f_X5_putBeside l q k rom plc plot ppc pmk pbd = some (r, l', p', k') ∧ f_Y8_puts l q 0 k w near = some (r, w') ∧ QP plc rom lcn l' p' k' w' ∧ AG 0 15 w w' ∧ AG 159 2450 w w' ∧ isum (ix p') plc.toNatClampNeg = isum (ix ppc) plc.toNatClampNeg + (q - r) ∧ 0 ≤ r ∧ r ≤ q ∧
      (∀ p : Int32, 0 ≤ p → p < plc → ix l' p = ix plot p ∧ (ix p' p = ix ppc p ∨ (ix plot p = l ∧ 1 ≤ ix ppc p ∧ 1 ≤ ix p' p))) ∧
      ((r = 0 ∧ q ≤ rbs plc rom plot ppc l) ∨ (0 < r ∧ r = q - rbs plc rom plot ppc l)) := by
  have hnear : ∀ n : Int32, 0 ≤ n → n < plc → 0 ≤ ix near n ∧ ix near n < 48 := fun n n0 n1 => by
    obtain ⟨a, b, c⟩ := hR.1 n n0 n1
    rw [a]; exact ⟨b, by grind⟩
  have fr := rbs_rng (l := l) h2 r1 r2 (by grind) hP
  obtain ⟨d, e, w1, w2, w3⟩ := lp_tail (f := fun z : Int32 × Int32 × (Nat → Int32) => f_Y8_puts_L6 l 0 k near z.1 z.2.1 z.2.2) (g := fun z : Int32 × Int32 × (Nat → Int32) × (Nat → Int32) × (Nat → Int32) => f_X5_putBeside_L6 l k rom plc pbd z.1 z.2.1 z.2.2.1 z.2.2.2.1 z.2.2.2.2)
    (fun s t => s.1 = t.1 ∧ s.2.1 = t.2.1 ∧ 0 ≤ t.2.1 ∧ t.2.1 ≤ plc ∧ 0 ≤ t.1 ∧ t.1 ≤ q ∧ QP plc rom lcn t.2.2.1 t.2.2.2.1 t.2.2.2.2 s.2.2 ∧ AG 0 15 w s.2.2 ∧ AG 159 2450 w s.2.2 ∧ isum (ix t.2.2.2.1) plc.toNatClampNeg = isum (ix ppc) plc.toNatClampNeg + (q - t.1) ∧
      (∀ p : Int32, 0 ≤ p → p < plc → ix t.2.2.1 p = ix plot p ∧ (ix t.2.2.2.1 p = ix ppc p ∨ (ix plot p = l ∧ 1 ≤ ix ppc p ∧ 1 ≤ ix t.2.2.2.1 p))) ∧
      (0 < t.1 → ∀ m : Int32, 0 ≤ m → m < t.2.1 → ix t.2.2.1 (ix pbd m) = l → ix t.2.2.2.1 (ix pbd m) = rom) ∧
      rbs plc rom t.2.2.1 t.2.2.2.1 l = rbs plc rom plot ppc l - (q - t.1))
    (fun d e => d.1 = e.1 ∧ 0 ≤ d.1 ∧ d.1 ≤ q ∧ QP plc rom lcn e.2.1 e.2.2.1 e.2.2.2 d.2 ∧ AG 0 15 w d.2 ∧ AG 159 2450 w d.2 ∧ isum (ix e.2.2.1) plc.toNatClampNeg = isum (ix ppc) plc.toNatClampNeg + (q - d.1) ∧
      (∀ p : Int32, 0 ≤ p → p < plc → ix e.2.1 p = ix plot p ∧ (ix e.2.2.1 p = ix ppc p ∨ (ix plot p = l ∧ 1 ≤ ix ppc p ∧ 1 ≤ ix e.2.2.1 p))) ∧
      rbs plc rom e.2.1 e.2.2.1 l = rbs plc rom plot ppc l - (q - d.1) ∧ (0 < d.1 → rbs plc rom e.2.1 e.2.2.1 l = 0)) (fun z => msr z.2.1 plc) (by
    rintro ⟨r', n', w'⟩ ⟨r, n, a, b, c⟩ ⟨x1, x2, g1, g2, g3, g4, g5, g6, g7, g8, g9, g10, g11⟩
    dsimp only at x1 x2 g1 g2 g3 g4 g5 g6 g7 g8 g9 g10 g11 ⊢
    subst x1 x2
    have hw' : w' 1 * w' 2 = plc := by
      have e1 : w' 1 = w 1 := g6 1 (by decide) (by decide)
      have e2 : w' 2 = w 2 := g6 2 (by decide) (by decide)
      rw [e1, e2]; exact hw
    have hr' : w' (3 : Int32).toNatClampNeg = rom := (g6 3 (by decide) (by decide)).trans hr
    by_cases hn : plc ≤ n'
    · refine Or.inr ⟨(r', w'), (r', a, b, c), ?_, fun m hm => ?_, rfl, g3, g4, g5, g6, g7, g8, g9, g11, ?_⟩
      · unfold f_X5_putBeside_L6; rw [if_pos hn]
      · obtain ⟨m', rfl⟩ : ∃ m', m = m' + 1 := ⟨m - 1, by omega⟩
        have : f_Y8_puts_L6 l 0 k near r' n' w' = some (.inr (r', w')) := by
          unfold f_Y8_puts_L6
          rw [n_places, hw']
          simp only [bnd1, Option.bind_some]
          rw [if_pos hn]
        simp only [loop, this]
      · intro y1
        refine rbs_0 (fun p p0 p1 _ p2 => ?_)
        obtain ⟨m, m0, m1, m2⟩ := hR.2 p p0 p1
        have := g10 y1 m m0 (by grind)
        rw [m2] at this
        exact this p2
    · have hn' : n' < plc := by grind
      by_cases hz : r' ≤ 0
      · have hz0 : r' = 0 := by grind
        refine Or.inr ⟨(r', w'), (r', a, b, c), ?_, fun m hm => ?_, rfl, g3, g4, g5, g6, g7, g8, g9, g11, fun y => absurd y (by grind)⟩
        · unfold f_X5_putBeside_L6; rw [if_neg hn, if_pos hz]
        · exact puts_idle (by grind) h2 hw' hnear hz m n' g1 g2 hm
      · left
        have hz' : 0 < r' := by grind
        obtain ⟨b1, b2, b3⟩ := hR.1 n' g1 hn'
        have b4 : near n'.toNatClampNeg = ix pbd n' := b1
        have b5 : pbd n'.toNatClampNeg = ix pbd n' := rfl
        obtain ⟨c1, c2, c3, c4, c5, c6⟩ := g5 (ix pbd n') b2 b3
        have c1' : w' (15 + ix pbd n').toNatClampNeg = ix a (ix pbd n') := c1
        have c2' : w' (63 + ix pbd n').toNatClampNeg = ix b (ix pbd n') := c2
        have bb : b (ix pbd n').toNatClampNeg = ix b (ix pbd n') := rfl
        by_cases hf : ix a (ix pbd n') = l
        · have hf1 : 1 ≤ ix b (ix pbd n') := by
            rcases c6 with ⟨z1, z2⟩ | ⟨z1, z2, z3⟩
            · exact absurd (hf.symm.trans z2) (by grind)
            · exact z1
          by_cases hg : rom ≤ ix b (ix pbd n')
          · refine ⟨(r', n' + 1, w'), (r', n' + 1, a, b, c), ?_, ?_, ⟨rfl, rfl, by dsimp only; grind, by dsimp only; grind, g3, g4, g5, g6, g7, g8, g9, ?_, g11⟩, msr_lt hn'⟩
            · unfold f_Y8_puts_L6
              rw [n_places, hw']
              simp only [bnd1, Option.bind_some]
              rw [if_neg hn, gd_48 g1 (by grind), if_pos trivial, b4, gd_2450 (by grind) (by grind), c1', if_pos hf]
              unfold f_Y8_puts_L6_J56 f_Y8_puts_L6_J153
              rw [gd_2450 (by decide) (by decide), gd_2450 (by grind) (by grind), if_neg one_ne, hr', c2', if_pos (by grind)]
            · unfold f_X5_putBeside_L6 f_X5_putBeside_L6_J97
              rw [if_neg hn, if_neg hz, gd_48 g1 (by grind), b5, n_isWith _ _ _ _ _ h2 b2 b3, if_pos ⟨hf1, hf⟩]
              simp only [bnd1, Option.bind_some]
              rw [if_neg one_ne, gd_48 b2 (by grind), bb, if_pos hg]
            · intro z m m0 m1 m2
              dsimp only at z m1 m2 ⊢
              by_cases hm : m = n'
              · rw [hm]; grind
              · exact g10 z m m0 (by grind) m2
          · obtain ⟨t, ht, t1, t2, t3, t4, t5⟩ : ∃ t : Int32, (if rom - ix b (ix pbd n') < r' then rom - ix b (ix pbd n') else r') = t ∧ 1 ≤ t ∧ t ≤ rom - ix b (ix pbd n') ∧ t ≤ r' ∧ (t < rom - ix b (ix pbd n') → t = r') ∧ (if rom - ix b (ix pbd n') ≤ r' then rom - ix b (ix pbd n') else r') = t := by
              by_cases e1 : rom - ix b (ix pbd n') < r'
              · exact ⟨_, rfl, by rw [if_pos e1]; grind, by rw [if_pos e1]; grind, by rw [if_pos e1]; grind, by rw [if_pos e1]; grind, by rw [if_pos e1, if_pos (by grind)]⟩
              · refine ⟨_, rfl, by rw [if_neg e1]; grind, by rw [if_neg e1]; grind, by rw [if_neg e1]; grind, by rw [if_neg e1]; grind, ?_⟩
                rw [if_neg e1]
                by_cases e2 : rom - ix b (ix pbd n') ≤ r'
                · rw [if_pos e2]; grind
                · rw [if_neg e2]
            have tz : ¬ ix b (ix pbd n') + t = 0 := by grind
            obtain ⟨w2, hw2⟩ : ∃ w2, w2 = upd (upd (upd w' (15 + ix pbd n').toNatClampNeg l) (63 + ix pbd n').toNatClampNeg (ix b (ix pbd n') + t)) (111 + ix pbd n').toNatClampNeg k := ⟨_, rfl⟩
            have frp := rbs_upd (rom := rom) b2 b3 hf hf1 (show 1 ≤ ix b (ix pbd n') + t by grind)
            refine ⟨(r' - t, n' + 1, w2), (r' - t, n' + 1, upd a (ix pbd n').toNatClampNeg l, upd b (ix pbd n').toNatClampNeg (ix b (ix pbd n') + t), upd c (ix pbd n').toNatClampNeg k), ?_, ?_, ⟨rfl, rfl, by dsimp only; grind, by dsimp only; grind, by dsimp only; grind, by dsimp only; grind, ?_, ?_, ?_, ?_, ?_, ?_, ?_⟩, msr_lt hn'⟩
            · have e3 : ∀ x : Int32, upd w' (15 + ix pbd n').toNatClampNeg x (63 + ix pbd n').toNatClampNeg = ix b (ix pbd n') := by
                intro x
                rw [upd_ne (by grind) (by grind) (by grind), c2']
              unfold f_Y8_puts_L6
              rw [n_places, hw']
              simp only [bnd1, Option.bind_some]
              rw [if_neg hn, gd_48 g1 (by grind), if_pos trivial, b4, gd_2450 (by grind) (by grind), c1', if_pos hf]
              unfold f_Y8_puts_L6_J56 f_Y8_puts_L6_J106 f_Y8_puts_L6_J153
              rw [gd_2450 (by decide) (by decide), gd_2450 (by grind) (by grind), if_neg one_ne, hr', c2', if_neg (by grind), if_neg hz]
              by_cases e2 : rom - ix b (ix pbd n') ≤ r'
              · rw [if_pos e2] at t5 ⊢
                rw [gd_2450 (by grind) (by grind), gd_2450 (by grind) (by grind), gd_2450 (by grind) (by grind), gd_2450 (by grind) (by grind), e3, hw2, t5]
              · rw [if_neg e2] at t5 ⊢
                rw [gd_2450 (by grind) (by grind), gd_2450 (by grind) (by grind), gd_2450 (by grind) (by grind), gd_2450 (by grind) (by grind), e3, hw2, t5]
            · unfold f_X5_putBeside_L6 f_X5_putBeside_L6_J97
              rw [if_neg hn, if_neg hz, gd_48 g1 (by grind), b5, n_isWith _ _ _ _ _ h2 b2 b3, if_pos ⟨hf1, hf⟩]
              simp only [bnd1, Option.bind_some]
              rw [if_neg one_ne, gd_48 b2 (by grind), bb, if_neg hg, gd_48 b2 (by grind), gd_48 b2 (by grind), ht, n_set h2 b2 b3, if_neg tz]
              rfl
            · dsimp only
              refine QP_set h2 g5 b2 b3 (by grind) (by grind) (Or.inr ⟨by grind, l0, l1⟩) ?_ ?_ ?_ ?_
              · rw [hw2]; unfold ix; rw [upd_ne (by grind) (by grind) (by grind), upd_ne (by grind) (by grind) (by grind), upd_same]
              · rw [hw2]; unfold ix; rw [upd_ne (by grind) (by grind) (by grind), upd_same]
              · rw [hw2]; unfold ix; rw [upd_same]
              · intro m m0 m1 m2
                refine ⟨?_, ?_, ?_⟩ <;> (rw [hw2]; unfold ix; rw [upd_ne (by grind) (by grind) (by grind), upd_ne (by grind) (by grind) (by grind), upd_ne (by grind) (by grind) (by grind)])
            · rw [hw2]; exact ((g6.up (by decide) (by grind) (by grind)).up (by decide) (by grind) (by grind)).up (by decide) (by grind) (by grind)
            · rw [hw2]; exact ((g7.up (by decide) (by grind) (by grind)).up (by decide) (by grind) (by grind)).up (by decide) (by grind) (by grind)
            · dsimp only
              rw [isum_upd (F := ix b) b2 b3 (fun m m0 m1 m2 => upd_ne b2 m0 m2), g8]
              show _ + (upd b (ix pbd n').toNatClampNeg (ix b (ix pbd n') + t) (ix pbd n').toNatClampNeg - ix b (ix pbd n')) = _
              rw [upd_same]; grind
            · intro p p0 p1
              dsimp only
              have u1 : ix (upd a (ix pbd n').toNatClampNeg l) p = if p = ix pbd n' then l else ix a p := upd_at b2 p0
              have u2 : ix (upd b (ix pbd n').toNatClampNeg (ix b (ix pbd n') + t)) p = if p = ix pbd n' then ix b (ix pbd n') + t else ix b p := upd_at b2 p0
              rw [u1, u2]
              obtain ⟨y1, y2⟩ := g9 p p0 p1
              by_cases hp : p = ix pbd n'
              · rw [if_pos hp, if_pos hp]
                rw [← hp] at hf hf1
                refine ⟨by rw [← hf, y1], Or.inr ⟨by rw [← y1, hf], ?_, by grind⟩⟩
                rcases y2 with y2 | ⟨-, y2, -⟩
                · rw [← y2]; exact hf1
                · exact y2
              · rw [if_neg hp, if_neg hp]; exact ⟨y1, y2⟩
            · intro z m m0 m1 m2
              dsimp only at z m1 m2 ⊢
              obtain ⟨v1, v2, v3⟩ := hR.1 m m0 (by grind)
              have u1 : ix (upd a (ix pbd n').toNatClampNeg l) (ix pbd m) = if ix pbd m = ix pbd n' then l else ix a (ix pbd m) := upd_at b2 v2
              have u2 : ix (upd b (ix pbd n').toNatClampNeg (ix b (ix pbd n') + t)) (ix pbd m) = if ix pbd m = ix pbd n' then ix b (ix pbd n') + t else ix b (ix pbd m) := upd_at b2 v2
              rw [u1] at m2
              rw [u2]
              by_cases hp : ix pbd m = ix pbd n'
              · rw [if_pos hp]; grind
              · rw [if_neg hp] at m2 ⊢
                refine g10 hz' m m0 ?_ m2
                have : m ≠ n' := fun z => hp (by rw [z])
                grind
            · dsimp only; rw [frp, g11]; grind
        · refine ⟨(r', n' + 1, w'), (r', n' + 1, a, b, c), ?_, ?_, ⟨rfl, rfl, by dsimp only; grind, by dsimp only; grind, g3, g4, g5, g6, g7, g8, g9, ?_, g11⟩, msr_lt hn'⟩
          · unfold f_Y8_puts_L6
            rw [n_places, hw']
            simp only [bnd1, Option.bind_some]
            rw [if_neg hn, gd_48 g1 (by grind), if_pos trivial, b4, gd_2450 (by grind) (by grind), c1', if_neg hf]
            unfold f_Y8_puts_L6_J56 f_Y8_puts_L6_J153
            rw [gd_2450 (by decide) (by decide), gd_2450 (by grind) (by grind), if_pos rfl]
          · unfold f_X5_putBeside_L6 f_X5_putBeside_L6_J97
            rw [if_neg hn, if_neg hz, gd_48 g1 (by grind), b5, n_isWith _ _ _ _ _ h2 b2 b3, if_neg (fun z => hf z.2)]
            rfl
          · intro z m m0 m1 m2
            dsimp only at z m1 m2 ⊢
            by_cases hm : m = n'
            · rw [hm] at m2; exact absurd m2 hf
            · exact g10 z m m0 (by grind) m2) fu (q, 0, w) (q, 0, plot, ppc, pmk) ⟨rfl, rfl, by dsimp only; decide, by dsimp only; grind, q0, by dsimp only; grind, hP, AG.rf, AG.rf, by dsimp only; rw [Int32.sub_self, Int32.add_zero], fun p _ _ => ⟨rfl, Or.inl rfl⟩, fun _ m m0 m1 => absurd m1 (by dsimp only; grind), by dsimp only; rw [Int32.sub_self, Int32.sub_zero]⟩ (msr_fu (by dsimp only; decide) (by grind))
  obtain ⟨r, w'⟩ := d
  obtain ⟨r', l', p', k'⟩ := e
  obtain ⟨g0, g1, g2, g3, g4, g5, g6, g7, g8, g9⟩ := w3
  dsimp only at g0 g1 g2 g3 g4 g5 g6 g7 g8 g9
  subst g0
  have fr2 := rbs_rng (l := l) h2 r1 r2 (by grind) g3
  refine ⟨r, l', p', k', w', ?_, ?_, g3, g4, g5, g6, g1, g2, g7, ?_⟩
  · unfold f_X5_putBeside; rw [w2]; rfl
  · unfold f_Y8_puts; rw [w1]; rfl
  · by_cases e : r = 0
    · exact Or.inl ⟨e, by rw [g8, e] at fr2; grind⟩
    · exact Or.inr ⟨by grind, by have := g9 (by grind); rw [g8] at this; grind⟩
theorem n_stampOf (o l c : Int32) (had : Nat → Int32) (hc : c ≤ 40) (h1 : 0 ≤ o) (h2 : o < c) (h3 : 0 ≤ l) (h4 : l < 24) : f_X2_stampOf o l c had = some (ix had (o * 24 + l)) := by
  unfold f_X2_stampOf f_X2_isCell
  rw [n_exO o c hc]
  have hp : 0 ≤ o ∧ o < c := ⟨h1, h2⟩
  simp only [bnd1, Option.bind_some, if_pos hp]
  rw [if_neg (by decide), if_neg (by grind), if_neg (by grind)]
  simp only [Option.bind_some]
  rw [if_neg (by decide), gd_960 (by grind) (by grind)]
theorem NLs_uniq {N : Int32} {key : Int32 → Int32} {G : Int32 → Prop} {r r' : Int32} (h : NLs N key G r) (h' : NLs N key G r') : r = r' := by
  rcases h with ⟨a1, a2⟩ | ⟨a1, a2, a3, a4⟩
  · rcases h' with ⟨b1, b2⟩ | ⟨b1, b2, b3, b4⟩
    · rw [a1, b1]
    · exact absurd b3 (a2 _ b1 b2)
  · rcases h' with ⟨b1, b2⟩ | ⟨b1, b2, b3, b4⟩
    · exact absurd a3 (b2 _ a1 a2)
    · have u := a4 _ b1 b2 b3
      have v := b4 _ a1 a2 a3
      grind
theorem NLs_up {N M : Int32} {key : Int32 → Int32} {G : Int32 → Prop} {r : Int32} (h : NLs N key G r) (hN : N ≤ M) (hG : ∀ l : Int32, N ≤ l → l < M → ¬ G l) : NLs M key G r := by
  rcases h with ⟨a1, a2⟩ | ⟨a1, a2, a3, a4⟩
  · exact Or.inl ⟨a1, fun l l0 l1 => if e : l < N then a2 l l0 e else hG l (by grind) l1⟩
  · exact Or.inr ⟨a1, by grind, a3, fun l l0 l1 hl => if e : l < N then a4 l l0 e hl else absurd hl (hG l (by grind) l1)⟩
theorem NLs_iff {N : Int32} {key : Int32 → Int32} {G G' : Int32 → Prop} {r : Int32} (h : NLs N key G r) (hG : ∀ l : Int32, 0 ≤ l → l < N → (G l ↔ G' l)) : NLs N key G' r := by
  rcases h with ⟨a1, a2⟩ | ⟨a1, a2, a3, a4⟩
  · exact Or.inl ⟨a1, fun l l0 l1 z => a2 l l0 l1 ((hG l l0 l1).mpr z)⟩
  · exact Or.inr ⟨a1, a2, (hG r a1 a2).mp a3, fun l l0 l1 hl => a4 l l0 l1 ((hG l l0 l1).mpr hl)⟩
/-- the lot given latest, of those below a stamp -/
theorem n_latest2 {ocn o below : Int32} {oha ost : Nat → Int32} (hc : ocn ≤ 40) (o0 : 0 ≤ o) (o1 : o < ocn) (hs : ∀ m : Int32, 0 ≤ m → m < 24 → 0 ≤ ix ost (o * 24 + m) ∧ ix ost (o * 24 + m) ≤ 2000) :
    ∃ r, f_X2_latestLot o below ocn oha ost = some r ∧ NLs 24 (fun l => 2000 - ix ost (o * 24 + l)) (fun l => 1 ≤ ix oha (o * 24 + l) ∧ ix ost (o * 24 + l) < below) r := by
  obtain ⟨r, r1, r2⟩ := min_loop (N := 24) (key := fun l => 2000 - ix ost (o * 24 + l)) (G := fun l => 1 ≤ ix oha (o * 24 + l) ∧ ix ost (o * 24 + l) < below) (g := fun z : Int32 × Int32 => f_X2_latestLot_L5 o below ocn oha ost z.1 z.2) (by decide) (by decide) (by
    intro b n hn
    dsimp only
    unfold f_X2_latestLot_L5
    rw [if_pos hn]) (by
    intro b n n0 n1 hb hG
    obtain ⟨g1, g2⟩ := hG
    obtain ⟨y1, y2⟩ := hs n n0 n1
    dsimp only
    unfold f_X2_latestLot_L5
    rw [if_neg (by grind), n_piecesOf o n ocn oha hc o0 o1 n0 n1]
    simp only [bnd1, Option.bind_some]
    rw [if_neg (by grind), n_stampOf o n ocn ost hc o0 o1 n0 n1]
    simp only [Option.bind_some]
    rw [if_neg (by grind)]
    unfold f_X2_latestLot_L5_J38 f_X2_latestLot_L5_J69 f_X2_latestLot_L5_J66 f_X2_latestLot_L5_J69
    rw [if_neg one_ne]
    by_cases hb1 : b = -1
    · rw [if_pos hb1, if_pos hb1]
    · obtain ⟨b0, b2⟩ : 0 ≤ b ∧ b < 24 := by
        rcases hb with z | z
        · exact absurd z hb1
        · exact z
      obtain ⟨x1, x2⟩ := hs b b0 b2
      rw [if_neg hb1, if_neg hb1, n_stampOf o n ocn ost hc o0 o1 n0 n1, n_stampOf o b ocn ost hc o0 o1 b0 b2]
      simp only [bnd1, Option.bind_some]
      by_cases hk : ix ost (o * 24 + n) ≤ ix ost (o * 24 + b)
      · rw [if_pos hk, if_pos (by grind)]
      · rw [if_neg hk, if_neg (by grind)]) (by
    intro b n n0 n1 hG
    dsimp only
    unfold f_X2_latestLot_L5 f_X2_latestLot_L5_J37 f_X2_latestLot_L5_J38 f_X2_latestLot_L5_J69
    rw [if_neg (by grind), n_piecesOf o n ocn oha hc o0 o1 n0 n1]
    simp only [bnd1, Option.bind_some]
    by_cases g1 : ix oha (o * 24 + n) ≤ 0
    · rw [if_pos g1, if_pos trivial]
    · rw [if_neg g1, n_stampOf o n ocn ost hc o0 o1 n0 n1]
      simp only [Option.bind_some]
      rw [if_pos (by grind), if_pos trivial])
  exact ⟨r, by unfold f_X2_latestLot; rw [r1]; rfl, r2⟩
theorem n_latest8 {ocn lcn o : Int32} {oha ost w : Nat → Int32} (h6 : w 6 = lcn) (c0 : 0 ≤ lcn) (c1 : lcn ≤ 24) (hc : ocn ≤ 40) (o0 : 0 ≤ o) (o1 : o < ocn) (hH : QH ocn lcn oha w) (hs : ∀ m : Int32, 0 ≤ m → m < 24 → ix w (1463 + 24 * o + m) = ix ost (o * 24 + m) ∧ 0 ≤ ix ost (o * 24 + m) ∧ ix ost (o * 24 + m) ≤ 2000) :
    ∃ r, f_Y8_latestLot o w = some r ∧ NLs 24 (fun l => 2000 - ix ost (o * 24 + l)) (fun l => 1 ≤ ix oha (o * 24 + l)) r := by
  have h6' : w (6 : Int32).toNatClampNeg = lcn := h6
  obtain ⟨r, r1, r2⟩ := min_loop (N := lcn) (key := fun l => 2000 - ix ost (o * 24 + l)) (G := fun l => 1 ≤ ix oha (o * 24 + l)) (g := fun z : Int32 × Int32 => f_Y8_latestLot_L4 o w z.1 z.2) c0 (by grind) (by
    intro b n hn
    dsimp only
    unfold f_Y8_latestLot_L4
    rw [gd_2450 (by decide) (by decide), h6', if_pos hn]) (by
    intro b n n0 n1 hb hG
    obtain ⟨y0, y1, y2⟩ := hs n n0 (by grind)
    obtain ⟨x0, -, -, -⟩ := hH o n o0 o1 n0 (by grind)
    dsimp only at hG ⊢
    unfold f_Y8_latestLot_L4
    rw [gd_2450 (by decide) (by decide), h6', if_neg (by grind), n_has o n w o0 (by grind) n0 (by grind), x0]
    simp only [bnd1, Option.bind_some]
    unfold f_Y8_latestLot_L4_J64 f_Y8_latestLot_L4_J62 f_Y8_latestLot_L4_J64
    rw [if_neg (by grind)]
    by_cases hb1 : b = -1
    · rw [if_pos hb1, if_pos hb1]
    · obtain ⟨b0, b2⟩ : 0 ≤ b ∧ b < lcn := by
        rcases hb with z | z
        · exact absurd z hb1
        · exact z
      obtain ⟨z0, z1, z2⟩ := hs b b0 (by grind)
      have y0' : w (1463 + 24 * o + n).toNatClampNeg = ix ost (o * 24 + n) := y0
      have z0' : w (1463 + 24 * o + b).toNatClampNeg = ix ost (o * 24 + b) := z0
      have p1 : 0 ≤ 1463 + 24 * o + n ∧ 1463 + 24 * o + n < 2450 := by clear hs hH; grind
      have p2 : 0 ≤ 1463 + 24 * o + b ∧ 1463 + 24 * o + b < 2450 := by clear hs hH; grind
      rw [if_neg hb1, if_neg hb1, gd_2450 p1.1 p1.2, gd_2450 p2.1 p2.2, y0', z0']
      by_cases hk : ix ost (o * 24 + n) ≤ ix ost (o * 24 + b)
      · rw [if_pos hk, if_pos (by clear hs hH; grind)]
      · rw [if_neg hk, if_neg (by clear hs hH; grind)]) (by
    intro b n n0 n1 hG
    obtain ⟨x0, -, -, -⟩ := hH o n o0 o1 n0 (by grind)
    dsimp only at hG ⊢
    unfold f_Y8_latestLot_L4 f_Y8_latestLot_L4_J64
    rw [gd_2450 (by decide) (by decide), h6', if_neg (by grind), n_has o n w o0 (by grind) n0 (by grind), x0]
    simp only [bnd1, Option.bind_some]
    rw [if_pos (by grind)])
  refine ⟨r, by unfold f_Y8_latestLot; rw [r1]; rfl, NLs_up r2 c1 (fun l l0 l1 z => ?_)⟩
  have := (hH o l o0 o1 (by grind) l1).2.2.2 l0

  rw [this] at z
  exact absurd z (by decide)
theorem ceil_le {q rom : Int32} (h1 : 1 ≤ q) (h2 : q ≤ 100) (r1 : 1 ≤ rom) (r2 : rom ≤ 20) : 0 ≤ (q + rom - 1) / rom ∧ (q + rom - 1) / rom ≤ q := by
  rw [i_le] at h1 h2 r1 r2
  rw [show (1 : Int32).toInt = 1 from rfl] at h1 r1
  rw [show (100 : Int32).toInt = 100 from rfl] at h2
  rw [show (20 : Int32).toInt = 20 from rfl] at r2
  have e1 : (q + rom - 1).toInt = q.toInt + rom.toInt - 1 := by
    rw [i_sub, i_add (by omega) (by omega)]
    · rfl
    · rw [i_add (by omega) (by omega)]; show _ ≤ _ - (1 : Int); omega
    · rw [i_add (by omega) (by omega)]; show _ - (1 : Int) ≤ _; omega
  have b1 : 0 ≤ (q.toInt + rom.toInt - 1) / rom.toInt := Int.ediv_nonneg (by omega) (by omega)
  have b3 : (q.toInt + rom.toInt - 1) / rom.toInt ≤ q.toInt := by
    refine Int.ediv_le_of_le_mul (by omega) ?_
    have m : 0 ≤ (q.toInt - 1) * (rom.toInt - 1) := Int.mul_nonneg (by omega) (by omega)
    have m2 : (q.toInt - 1) * (rom.toInt - 1) = q.toInt * rom.toInt - q.toInt - rom.toInt + 1 := by
      rw [Int.sub_mul, Int.mul_sub, Int.one_mul, Int.mul_one]; omega
    omega
  have e3 : ((q + rom - 1) / rom).toInt = (q.toInt + rom.toInt - 1) / rom.toInt := by
    rw [Int32.toInt_div, e1, Int.tdiv_eq_ediv_of_nonneg (by omega)]
    exact Int.bmod_eq_of_le (by omega) (by omega)
  rw [i_le, i_le, e3, show (0 : Int32).toInt = 0 from rfl]
  exact ⟨b1, b3⟩
/-- pieces of a lot come back, both sides -/
theorem s_tk {t L plc rom lcn : Int32} {plot ppc pmk pbd near w : Nat → Int32} (h1 : 1 ≤ plc) (h2 : plc ≤ 48) (r1 : 1 ≤ rom) (r2 : rom ≤ 20) (hw : w 1 * w 2 = plc) (hr : w 3 = rom) (hP : QP plc rom lcn plot ppc pmk w) (hR : QR plc pbd near) (l0 : 0 ≤ L) (l1 : L < lcn) (t0 : 1 ≤ t) (t1 : t ≤ 100) :
    ∃ x a b c l' p' k' w1 w' r u cc, f_X5_putBeside L t 3 rom plc plot ppc pmk pbd = some (x, a, b, c) ∧ f_X5_putAway L x 3 rom plc a b c pbd = some (l', p', k') ∧ f_Y8_puts L t 0 3 w near = some (x, w1) ∧ f_Y8_puts L x 1 3 w1 near = some (r, w') ∧
      QP plc rom lcn l' p' k' w' ∧ AG 0 15 w w' ∧ AG 159 2450 w w' ∧ isum (ix p') plc.toNatClampNeg = isum (ix ppc) plc.toNatClampNeg + (t - r) ∧ 0 ≤ r ∧ r ≤ t ∧
      (∀ p : Int32, 0 ≤ p → p < plc → (ix l' p = ix plot p ∧ ix p' p = ix ppc p) ∨ (ix l' p = L ∧ (ix ppc p = 0 ∨ ix plot p = L))) ∧
      f_X5_placesFor (t - rbs plc rom plot ppc L) rom = some cc ∧ 0 ≤ cc ∧ cc ≤ t ∧ frs plc p' = frs plc ppc - u ∧ 0 ≤ u ∧ u ≤ frs plc ppc ∧ ((r = 0 ∧ u = cc) ∨ (0 < r ∧ u = frs plc ppc ∧ u < cc)) := by
  have fb := rbs_rng (l := L) h2 r1 r2 (by grind) hP
  obtain ⟨x, a, b, c, w1, s1, s2, s3, s4, s5, s6, s7, s8, s9, s10⟩ := s_beside (k := 3) h1 h2 r1 r2 hw hr hP hR l0 l1 (by grind) t1
  have hw1 : w1 1 * w1 2 = plc := by
    have e1 : w1 1 = w 1 := s4 1 (by decide) (by decide)
    have e2 : w1 2 = w 2 := s4 2 (by decide) (by decide)
    rw [e1, e2]; exact hw
  have hr1 : w1 3 = rom := (s4 3 (by decide) (by decide)).trans hr
  obtain ⟨r, l', p', k', w', u, v1, v2, v3, v4, v5, v6, v7, v8, v9, v10, v11, v12, v13⟩ := s_puts (k := 3) h1 h2 r1 r2 hw1 hr1 s3 hR l0 l1 s7 (show x ≤ 100 by grind)
  have fs : frs plc b = frs plc ppc := frs_same (fun n n0 n1 => by
    rcases (s9 n n0 n1).2 with z | ⟨z1, z2, z3⟩
    · rw [z]
    · constructor <;> (intro z; grind))
  rw [fs] at v10 v12 v13
  refine ⟨x, a, b, c, l', p', k', w1, w', r, u, (if x = 0 then 0 else (x + rom - 1) / rom), s1, v1, s2, v2, v3, s4.tr v4, s5.tr v5, by rw [v6, s6]; grind, v7, by grind, ?_, ?_, ?_, ?_, v10, v11, v12, ?_⟩
  · intro p p0 p1
    obtain ⟨y1, y2⟩ := s9 p p0 p1
    rcases v9 p p0 p1 with ⟨z1, z2⟩ | ⟨z1, z2, z3⟩
    · rcases y2 with y2 | ⟨y2, y3, y4⟩
      · exact Or.inl ⟨z1.trans y1, z2.trans y2⟩
      · exact Or.inr ⟨by rw [z1, y1, y2], Or.inr y2⟩
    · refine Or.inr ⟨z2, ?_⟩
      rcases y2 with y2 | ⟨y2, y3, y4⟩
      · exact Or.inl (by rw [← y2]; exact z1)
      · exact Or.inr y2
  · unfold f_X5_placesFor f_X5_placesFor_J12
    clear s3 s4 s5 s9 v3 v4 v5 v9 hP hR
    rcases s10 with ⟨z1, z2⟩ | ⟨z1, z2⟩
    · have y : t - rbs plc rom plot ppc L ≤ 0 := by grind
      rw [if_pos y, if_pos z1]
    · have y : ¬ x ≤ 0 := by grind
      have y2 : ¬ x = 0 := by grind
      have y3 : rom ≠ 0 := by grind
      rw [← z2, if_neg y, if_neg y2, if_pos r1, gz_ok y3]
  · by_cases e : x = 0
    · rw [if_pos e]; decide
    · rw [if_neg e]; exact (ceil_le (by grind) (by grind) r1 r2).1
  · by_cases e : x = 0
    · rw [if_pos e]; grind
    · rw [if_neg e]
      have := (ceil_le (q := x) (by grind) (by grind) r1 r2).2
      grind
  · by_cases e : x = 0
    · rw [if_pos e]
      rcases v13 with ⟨z1, z2⟩ | ⟨z1, z2, z3⟩
      · rcases z2 with z2 | z2
        · exact Or.inl ⟨z1, z2.2⟩
        · exact absurd z2.1 (by grind)
      · exact absurd z1 (by grind)
    · rw [if_neg e]
      rcases v13 with ⟨z1, z2⟩ | ⟨z1, z2, z3⟩
      · rcases z2 with z2 | z2
        · exact absurd z2.1 e
        · exact Or.inl ⟨z1, z2.2.symm⟩
      · obtain ⟨fr1, fr2⟩ := frs_rng (ppc := ppc) (show 0 ≤ plc by grind) h2
        obtain ⟨kk, k1, k2⟩ := n_room (q := x) (fr := frs plc ppc) (by grind) (by grind) r1 r2 (i_le.mp fr1) (i_le.mp fr2)
        have ek : kk = (x + rom - 1) / rom := by
          unfold f_X5_placesFor at k1
          rw [if_neg (by grind), if_pos r1, gz_ok (by grind)] at k1
          exact (Option.some.inj k1).symm
        refine Or.inr ⟨z1, z2, ?_⟩
        rw [z2, ← ek, k2, ← z2]
        exact z3
theorem n_isWaste {l tod lcn : Int32} {lla lst : Nat → Int32} (hc : lcn ≤ 24) (l0 : 0 ≤ l) (l1 : l < lcn) : f_X1_isWaste l tod lcn lla lst = some (if ix lst l = 2 then 1 else if tod ≤ ix lla l then 0 else 1) := by
  unfold f_X1_isWaste f_X1_isWaste_J28
  rw [n_exL l lcn hc, if_pos ⟨l0, l1⟩]
  simp only [bnd1, Option.bind_some]
  rw [if_neg one_ne, gd_24 l0 (by grind), gd_24 l0 (by grind)]
  show (if ix lst l = 2 then _ else if tod ≤ ix lla l then _ else _) = _
  by_cases e : ix lst l = 2
  · rw [if_pos e, if_pos e]
  · rw [if_neg e, if_neg e]
    by_cases e2 : tod ≤ ix lla l
    · rw [if_pos e2, if_pos e2]
    · rw [if_neg e2, if_neg e2]
theorem n_takeBack {o l t c : Int32} {had : Nat → Int32} (hc : c ≤ 40) (h1 : 0 ≤ o) (h2 : o < c) (h3 : 0 ≤ l) (h4 : l < 24) : f_X2_takeBack o l t c had = some (upd had (o * 24 + l).toNatClampNeg (ix had (o * 24 + l) - t)) := by
  unfold f_X2_takeBack f_X2_isCell
  rw [n_exO o c hc]
  have hp : 0 ≤ o ∧ o < c := ⟨h1, h2⟩
  simp only [bnd1, Option.bind_some, if_pos hp]
  rw [if_neg (by decide), if_neg (by grind), if_neg (by grind)]
  simp only [Option.bind_some]
  rw [if_neg (by decide), gd_960 (by grind) (by grind), gd_960 (by grind) (by grind)]
theorem n_piecesAt {o c : Int32} {had : Nat → Int32} (hc : c ≤ 40) (h1 : 0 ≤ o) (h2 : o < c) : f_X2_piecesAt o c had = some (isum (fun l => ix had (o * 24 + l)) (24 : Int32).toNatClampNeg) := by
  unfold f_X2_piecesAt
  rw [sum_loop (F := fun l => ix had (o * 24 + l)) (N := 24) (g := fun z : Int32 × Int32 => f_X2_piecesAt_L4 o c had z.1 z.2) (by decide) (by decide) (fun a n n0 n1 => by
    dsimp only
    unfold f_X2_piecesAt_L4
    by_cases hn : 24 ≤ n
    · rw [if_pos hn, if_pos hn]
    · rw [if_neg hn, if_neg hn, n_piecesOf o n c had hc h1 h2 n0 (by grind)]; rfl)]
  rfl
/-- the row of an order's lots after some were taken back -/
theorem row_upd {o n m L v : Int32} {h : Nat → Int32} (o0 : 0 ≤ o) (o1 : o < 40) (n0 : 0 ≤ n) (n1 : n < 40) (m0 : 0 ≤ m) (m1 : m < 24) (l0 : 0 ≤ L) (l1 : L < 24) : ix (upd h (o * 24 + L).toNatClampNeg v) (n * 24 + m) = if n = o ∧ m = L then v else ix h (n * 24 + m) := by
  have e : ix (upd h (o * 24 + L).toNatClampNeg v) (n * 24 + m) = if n * 24 + m = o * 24 + L then v else ix h (n * 24 + m) := upd_at (by grind) (by grind)
  rw [e]
  by_cases z : n = o ∧ m = L
  · rw [if_pos z, if_pos (by rw [z.1, z.2])]
  · rw [if_neg z, if_neg (fun y => z (mul24 n0 n1 o0 o1 m0 m1 l0 l1 y))]
theorem lp_rel3 {σ τ υ ε δ ζ : Type} {f : σ → Option (σ ⊕ ε)} {g : τ → Option (τ ⊕ δ)} {h : υ → Option (υ ⊕ ζ)} (Inv : σ → τ → υ → Prop) (Post : ε → δ → ζ → Prop) (μ : σ → Nat)
    (H : ∀ s t u, Inv s t u → (∃ s' t' u', f s = some (.inl s') ∧ g t = some (.inl t') ∧ h u = some (.inl u') ∧ Inv s' t' u' ∧ μ s' < μ s) ∨ ∃ a b c, f s = some (.inr a) ∧ g t = some (.inr b) ∧ h u = some (.inr c) ∧ Post a b c) :
    ∀ n s t u, Inv s t u → μ s < n → ∃ a b c, loop f n s = some a ∧ loop g n t = some b ∧ loop h n u = some c ∧ Post a b c := by
  intro n
  induction n with
  | zero => intro s _ _ _ h2; exact absurd h2 (Nat.not_lt_zero _)
  | succ n ih =>
    intro s t u hi hm
    rcases H s t u hi with ⟨s', t', u', h1, k1, j1, h2, h3⟩ | ⟨a, b, c, h1, k1, j1, h2⟩
    · obtain ⟨a, b, c, h4, k4, j4, h5⟩ := ih s' t' u' h2 (by omega)
      exact ⟨a, b, c, by simp only [loop, h1]; exact h4, by simp only [loop, k1]; exact k4, by simp only [loop, j1]; exact j4, h5⟩
    · exact ⟨a, b, c, by simp only [loop, h1], by simp only [loop, k1], by simp only [loop, j1], h2⟩
/-- how many lots an order has pieces of -/
def cnt (h : Nat → Int32) (o : Int32) : Int32 := isum (fun l => if 1 ≤ ix h (o * 24 + l) then 1 else 0) (24 : Int32).toNatClampNeg
theorem cnt_rng {h : Nat → Int32} {o : Int32} : 0 ≤ cnt h o ∧ cnt h o ≤ 24 := by
  obtain ⟨a, b⟩ := isum_rng (F := fun l => if 1 ≤ ix h (o * 24 + l) then 1 else 0) (N := 24) (b := 1) (by decide) (by decide) (by decide) (fun n n0 n1 => by
    by_cases z : 1 ≤ ix h (o * 24 + n)
    · rw [if_pos z]; exact ⟨by decide, by decide⟩
    · rw [if_neg z]; exact ⟨by decide, by decide⟩)
  unfold cnt
  rw [i_le, i_le, show (0 : Int32).toInt = 0 from rfl, show (24 : Int32).toInt = 24 from rfl]
  rw [show (1 : Int32).toInt = 1 from rfl] at b
  have e : (((24 : Int32).toNatClampNeg : Nat) : Int) = 24 := rfl
  exact ⟨a, by omega⟩
theorem cnt_upd {h : Nat → Int32} {o L v : Int32} (o0 : 0 ≤ o) (o1 : o < 40) (l0 : 0 ≤ L) (l1 : L < 24) (hL : 1 ≤ ix h (o * 24 + L)) : cnt (upd h (o * 24 + L).toNatClampNeg v) o = cnt h o - if 1 ≤ v then 0 else 1 := by
  unfold cnt
  have e1 := row_upd (v := v) (h := h) o0 o1 o0 o1 l0 l1 l0 l1
  rw [if_pos ⟨rfl, rfl⟩] at e1
  rw [isum_upd (F := fun l => if 1 ≤ ix h (o * 24 + l) then 1 else 0) l0 l1]
  · rw [e1, if_pos hL]
    by_cases e : 1 ≤ v
    · rw [if_pos e]; grind
    · rw [if_neg e]; grind
  · intro n n0 n1 n2
    have e2 := row_upd (v := v) (h := h) o0 o1 o0 o1 n0 n1 l0 l1
    rw [if_neg (fun z => n2 z.2)] at e2
    rw [e2]
theorem cnt_pos {h : Nat → Int32} {o L : Int32} (o0 : 0 ≤ o) (o1 : o < 40) (l0 : 0 ≤ L) (l1 : L < 24) (hL : 1 ≤ ix h (o * 24 + L)) : 1 ≤ cnt h o := by
  have a := cnt_upd (v := 0) o0 o1 l0 l1 hL
  rw [if_neg (by decide)] at a
  have b := cnt_rng (h := upd h (o * 24 + L).toNatClampNeg 0) (o := o)
  have c := cnt_rng (h := h) (o := o)
  rw [a] at b
  grind
/-- how many pieces an order has -/
def hsm (h : Nat → Int32) (o : Int32) : Int32 := isum (fun l => ix h (o * 24 + l)) (24 : Int32).toNatClampNeg
theorem hsm_upd {h : Nat → Int32} {o L v : Int32} (o0 : 0 ≤ o) (o1 : o < 40) (l0 : 0 ≤ L) (l1 : L < 24) : hsm (upd h (o * 24 + L).toNatClampNeg v) o = hsm h o + (v - ix h (o * 24 + L)) := by
  unfold hsm
  rw [isum_upd (F := fun l => ix h (o * 24 + l)) l0 l1]
  · rw [row_upd o0 o1 o0 o1 l0 l1 l0 l1, if_pos ⟨rfl, rfl⟩]
  · intro n n0 n1 n2
    rw [row_upd o0 o1 o0 o1 n0 n1 l0 l1, if_neg (fun z => n2 z.2)]
theorem hsm_rng {h : Nat → Int32} {o : Int32} (hh : ∀ m : Int32, 0 ≤ m → m < 24 → 0 ≤ ix h (o * 24 + m) ∧ ix h (o * 24 + m) ≤ 50) : 0 ≤ hsm h o ∧ hsm h o ≤ 1200 := by
  obtain ⟨a, b⟩ := isum_rng (F := fun l => ix h (o * 24 + l)) (N := 24) (b := 50) (by decide) (by decide) (by decide) hh
  unfold hsm
  rw [i_le, i_le, show (0 : Int32).toInt = 0 from rfl, show (1200 : Int32).toInt = 1200 from rfl]
  rw [show (50 : Int32).toInt = 50 from rfl] at b
  have e : (((24 : Int32).toNatClampNeg : Nat) : Int) = 24 := rfl
  exact ⟨a, by omega⟩
theorem hsm_0 {h : Nat → Int32} {o : Int32} (hh : ∀ m : Int32, 0 ≤ m → m < 24 → ix h (o * 24 + m) = 0) : hsm h o = 0 := by
  unfold hsm
  have : isum (fun l => ix h (o * 24 + l)) (24 : Int32).toNatClampNeg = isum (fun _ => (0 : Int32) * 0) (24 : Int32).toNatClampNeg := isum_eq (fun n n0 n1 => by rw [hh n n0 n1]; rfl)
  rw [this, isum_mul, Int32.zero_mul]
theorem bk_k {k C : Int32} (h0 : 0 ≤ k) (h1 : k ≤ 24) (hc : k + C ≤ 24) (c1 : 1 ≤ C) (c2 : C ≤ 24) : k < 24 ∧ ¬ 24 ≤ k := by constructor <;> grind
theorem bk_t {H lf q t : Int32} (h1 : 1 ≤ H) (h2 : H ≤ 50) (l0 : 0 < lf) (l1 : lf ≤ q) (q1 : q ≤ 50) (ht : t = if H < lf then H else lf) : 1 ≤ t ∧ t ≤ lf ∧ t ≤ H ∧ (0 < lf - t → t = H) ∧ t ≤ 50 ∧ (lf ≤ H → t = lf) ∧ (¬ lf ≤ H → t = H) ∧ ¬ lf ≤ 0 ∧ t ≤ 100 ∧ 0 ≤ H - t ∧ H - t ≤ H := by
  by_cases z : H < lf
  · rw [if_pos z] at ht
    subst ht
    refine ⟨h1, by grind, by grind, fun _ => rfl, h2, by grind, fun _ => rfl, by grind, by grind, by grind, by grind⟩
  · rw [if_neg z] at ht
    subst ht
    refine ⟨by grind, by grind, by grind, by grind, by grind, fun _ => rfl, by grind, by grind, by grind, by grind, by grind⟩
theorem bk_ix {o L : Int32} (o0 : 0 ≤ o) (o1 : o < 40) (l0 : 0 ≤ L) (l1 : L < 24) : 0 ≤ 503 + 24 * o + L ∧ 503 + 24 * o + L < 1463 ∧ 503 + 24 * o ≤ 503 + 24 * o + L ∧ 503 + 24 * o + L < 503 + 24 * o + 24 ∧ 503 ≤ 503 + 24 * o ∧ 503 + 24 * o + 24 ≤ 1463 ∧ (0 : Int32) ≤ 503 + 24 * o ∧ 0 ≤ 503 + 24 * o + 24 ∧ 12 ≤ 503 + 24 * o + L ∧ 11 ≤ 503 + 24 * o + L ∧ 503 ≤ 503 + 24 * o + L ∧ 11 < 503 + 24 * o + 24 ∧ 12 < 503 + 24 * o + 24 ∧ 503 + 24 * o + L < 2450 ∧ 159 ≤ 503 + 24 * o + L ∧ 503 + 24 * o ≤ 2450 ∧ 159 ≤ 503 + 24 * o + 24 := by
  refine ⟨by grind, by grind, by grind, by grind, by grind, by grind, by grind, by grind, by grind, by grind, by grind, by grind, by grind, by grind, by grind, by grind, by grind⟩
theorem bk_st {o m : Int32} (o0 : 0 ≤ o) (o1 : o < 40) (l0 : 0 ≤ m) (l1 : m < 24) : 503 + 24 * o + 24 ≤ 1463 + 24 * o + m ∧ 1463 + 24 * o + m < 2450 := by constructor <;> grind
theorem bk_inj {n m o L : Int32} (n0 : 0 ≤ n) (n1 : n < 40) (m0 : 0 ≤ m) (m1 : m < 24) (o0 : 0 ≤ o) (o1 : o < 40) (l0 : 0 ≤ L) (l1 : L < 24) (e : 503 + 24 * n + m = 503 + 24 * o + L) : n = o ∧ m = L := by constructor <;> grind
theorem bk_lt (l : Int32) {c : Int32} (h : l < c) (hc : c ≤ 40) : l < 40 := by grind
theorem bk_not {x : Int32} (h : ¬ 1 ≤ x) (h0 : 0 ≤ x) : x = 0 := by grind
theorem bk_lots {L : Int32} (l0 : 0 ≤ L) (l1 : L < 24) : (0 : Int32) ≤ 279 + L ∧ 279 + L < 2450 ∧ 0 ≤ 231 + L ∧ 231 + L < 2450 ∧ 159 ≤ 279 + L ∧ 159 ≤ 231 + L ∧ 12 ≤ 279 + L ∧ 12 ≤ 231 + L ∧ 279 + L < 503 ∧ 231 + L < 503 := by
  refine ⟨by grind, by grind, by grind, by grind, by grind, by grind, by grind, by grind, by grind, by grind⟩
theorem bk_lo {i o : Int32} (h : i < 503) (o0 : 0 ≤ o) (o1 : o < 40) : i < 503 + 24 * o := by grind
theorem bk_base {k lf q t C C' H X Y : Int32} (k0 : 0 ≤ k) (k1 : k < 24) (l0 : 0 < lf) (l1 : lf ≤ q) (q1 : q ≤ 50) (t1 : 1 ≤ t) (t2 : t ≤ lf) (t4 : 0 < lf - t → t = H) (kc : k + C ≤ 24) (c0 : 1 ≤ C) (c1 : C ≤ 24) (cu : C' = C - if 1 ≤ H - t then 0 else 1) (hY : Y = X - t) (x0 : lf ≤ X) (x1 : X ≤ 1200) : 0 ≤ k + 1 ∧ k + 1 ≤ 24 ∧ 0 ≤ lf - t ∧ lf - t ≤ q ∧ (0 < lf - t → k + 1 + C' ≤ 24) ∧ lf - t ≤ Y := by
  refine ⟨by grind, by grind, by grind, by grind, fun z => ?_, by grind⟩
  have := t4 z
  rw [cu, if_neg (by grind)]
  grind
theorem bk_ost {sl sL bd : Int32} (a0 : 0 ≤ sl) (a1 : sl ≤ 2000) (b0 : 0 ≤ sL) (b1 : sL ≤ 2000) (ne : sl ≠ sL) {x y : Int32} (h : 2000 - sL < 2000 - sl ∨ (2000 - sL = 2000 - sl ∧ x ≤ y)) : sl < sL := by grind
theorem bk_big {x : Int32} (h : x ≤ 2000) : x < 2147483647 := by grind
theorem bk_fin1 {n3 lf q t m4 scr : Int32} (n0 : 0 ≤ n3) (n1 : n3 ≤ q - lf) (m0 : 0 ≤ m4) (m1 : m4 ≤ q - lf) (l0 : 0 < lf) (l1 : lf ≤ q) (q1 : q ≤ 50) (t1 : 1 ≤ t) (t2 : t ≤ lf) (r c : Int32) (r0 : 0 ≤ r) (r1 : r ≤ t) (c0 : 0 ≤ c) (c1 : c ≤ t) : 0 ≤ n3 + c ∧ n3 + c ≤ q - (lf - t) ∧ 0 ≤ m4 + r ∧ m4 + r ≤ q - (lf - t) := by
  refine ⟨by grind, by grind, by grind, by grind⟩
theorem bk_fin2 {n3 m4 lf q t F Fb F' r u cc : Int32} (n0 : 0 ≤ n3) (n1 : n3 ≤ q - lf) (m0 : 0 ≤ m4) (m1 : m4 ≤ q - lf) (l0 : 0 < lf) (l1 : lf ≤ q) (q1 : q ≤ 50) (t1 : 1 ≤ t) (t2 : t ≤ lf) (r0 : 0 ≤ r) (r1 : r ≤ t) (c0 : 0 ≤ cc) (c1 : cc ≤ t) (f0 : 0 ≤ F) (f1 : F ≤ 48) (b0 : 0 ≤ Fb) (b1 : Fb ≤ 48) (u0 : 0 ≤ u) (u1 : u ≤ Fb) (hF : F' = Fb - u) (hf : (m4 = 0 ∧ Fb = F - n3) ∨ (0 < m4 ∧ F < n3)) (hr : (r = 0 ∧ u = cc) ∨ (0 < r ∧ u = Fb ∧ u < cc)) : (m4 + r = 0 ∧ F' = F - (n3 + cc)) ∨ (0 < m4 + r ∧ F < n3 + cc) := by
  rcases hf with ⟨f1', f2⟩ | ⟨f1', f2⟩
  · rcases hr with ⟨f3, f4⟩ | ⟨f3, f4, f5⟩
    · left; rw [f1', f3, hF, f2, f4]; exact ⟨by decide, by grind⟩
    · right; rw [f1']; refine ⟨by grind, by grind⟩
  · right; refine ⟨by grind, by grind⟩
/-- giveBack's loops: the places needed, what is taken back, and the model's -/
def BK (o q rom plc lcn ocn : Int32) (plot ppc oha ost w : Nat → Int32) (n3 lf bd k scr : Int32) (a b c h : Nat → Int32) (m4 : Int32) (w' : Nat → Int32) : Prop :=
  (0 ≤ k ∧ k ≤ 24 ∧ 0 ≤ lf ∧ lf ≤ q ∧ (0 < lf → k + cnt h o ≤ 24) ∧ lf ≤ hsm h o) ∧
  (0 < lf → ∀ l : Int32, 0 ≤ l → l < 24 → ix h (o * 24 + l) = if 1 ≤ ix oha (o * 24 + l) ∧ ix ost (o * 24 + l) < bd then ix oha (o * 24 + l) else 0) ∧
  (0 < lf → ∀ p : Int32, 0 ≤ p → p < plc → (ix a p = ix plot p ∧ ix b p = ix ppc p) ∨ (0 ≤ ix a p ∧ ix a p < 24 ∧ ix h (o * 24 + ix a p) = 0 ∧ (ix ppc p = 0 ∨ ix plot p = ix a p))) ∧
  QP plc rom lcn a b c w' ∧ QH ocn lcn h w' ∧ (∀ n m : Int32, 0 ≤ n → n < ocn → 0 ≤ m → m < 24 → ix h (n * 24 + m) ≤ ix oha (n * 24 + m)) ∧
  AG 0 11 w w' ∧ AG 13 15 w w' ∧ AG 159 (503 + 24 * o) w w' ∧ AG (503 + 24 * o + 24) 2450 w w' ∧ w' 11 = w 11 + (q - lf) ∧ w' 12 = w 12 + scr ∧
  isum (ix b) plc.toNatClampNeg = isum (ix ppc) plc.toNatClampNeg + (q - lf - scr - m4) ∧
  (0 ≤ n3 ∧ n3 ≤ q - lf ∧ 0 ≤ m4 ∧ m4 ≤ q - lf) ∧
  ((m4 = 0 ∧ frs plc b = frs plc ppc - n3) ∨ (0 < m4 ∧ frs plc ppc < n3))
theorem bk_step {o q tod rom plc lcn ocn prods gif : Int32} {pmk0 plot ppc pbd lpr lla lco lst oha ost near w : Nat → Int32} {n3 lf bd k scr m4 : Int32} {a b c h w' : Nat → Int32}
    (p1 : 1 ≤ plc) (p2 : plc ≤ 48) (r1 : 1 ≤ rom) (r2 : rom ≤ 20) (hw : w 1 * w 2 = plc) (hr : w 3 = rom) (hd : w 0 = tod) (h6 : w 6 = lcn) (c0 : 0 ≤ lcn) (c1 : lcn ≤ 24) (o0 : 0 ≤ o) (o1 : o < ocn) (oc : ocn ≤ 40) (q1 : q ≤ 50)
    (hP0 : QP plc rom lcn plot ppc pmk0 w) (hL : QL lcn prods lpr lla lco lst w) (hR : QR plc pbd near) (hG : QG ocn gif oha ost w) (gf : gif ≤ 2000) (hH0 : QH ocn lcn oha w)
    (hB : BK o q rom plc lcn ocn plot ppc oha ost w n3 lf bd k scr a b c h m4 w') (hlf : 0 < lf) :
    ∃ n3' lf' bd' scr' a' b' c' h' m4' w2, f_X7_placesForReturn_L13 o tod rom plc plot ppc lcn lla lst ocn oha ost n3 lf bd k = some (.inl (n3', lf', bd', k + 1)) ∧
      f_X7_takeBack_L8 o tod rom plc pbd lcn lla lst ocn ost scr lf k a b c h = some (.inl (scr', lf', k + 1, a', b', c', h')) ∧
      (∀ n3x c_raised c_undos c_eldest c_kept c_copy, f_Y8_giveBack_L70 o n3x c_raised c_undos c_eldest c_kept c_copy near m4 lf w' = some (.inl (m4', lf', w2))) ∧
      BK o q rom plc lcn ocn plot ppc oha ost w n3' lf' bd' (k + 1) scr' a' b' c' h' m4' w2 ∧ k < 24 := by
  obtain ⟨⟨k0, k1, lf0, lf1, kc, ls⟩, hh, hp, hP, hH, hle, g1, g2, g3, g4, b1, b2, hs, ⟨n0, n1, m0, m1⟩, hf⟩ := hB
  have o40 : o < 40 := bk_lt o o1 oc
  have pz : 0 ≤ plc := Int32.le_trans (by decide) p1
  have kc := kc hlf
  have hh := hh hlf
  have hp := hp hlf
  obtain ⟨-, gi0, gs, gu, -⟩ := hG
  have st : ∀ m : Int32, 0 ≤ m → m < 24 → 0 ≤ ix ost (o * 24 + m) ∧ ix ost (o * 24 + m) ≤ 2000 := fun m m0 m1 => by
    obtain ⟨-, y1, y2, -⟩ := gs o m o0 o1 m0 m1
    exact ⟨y1, Int32.le_trans y2 gf⟩
  have e0 : w' 0 = tod := (g1 0 (by decide) (by decide)).trans hd
  have e1 : w' 1 = w 1 := g1 1 (by decide) (by decide)
  have e2 : w' 2 = w 2 := g1 2 (by decide) (by decide)
  have e3 : w' 3 = rom := (g1 3 (by decide) (by decide)).trans hr
  have e6 : w' 6 = lcn := (g1 6 (by decide) (by decide)).trans h6
  have st' : ∀ m : Int32, 0 ≤ m → m < 24 → ix w' (1463 + 24 * o + m) = ix ost (o * 24 + m) ∧ 0 ≤ ix ost (o * 24 + m) ∧ ix ost (o * 24 + m) ≤ 2000 := fun m m0 m1 => by
    have z := bk_st o0 o40 m0 m1
    exact ⟨(g4 _ z.1 z.2).trans (gs o m o0 o1 m0 m1).1, st m m0 m1⟩
  -- the lot
  obtain ⟨L, s1, s2⟩ := n_latest2 (below := bd) (oha := oha) oc o0 o1 st
  obtain ⟨L2, t1, t2⟩ := n_latest2 (below := 2147483647) (oha := h) oc o0 o1 st
  obtain ⟨L3, u1, u2⟩ := n_latest8 e6 c0 c1 oc o0 o1 hH st'
  have hge : ∀ l : Int32, 0 ≤ l → l < 24 → 0 ≤ ix h (o * 24 + l) := fun l l0 l1 => (hH o l o0 o1 l0 l1).2.1
  have i1 : ∀ l : Int32, 0 ≤ l → l < 24 → ((1 ≤ ix oha (o * 24 + l) ∧ ix ost (o * 24 + l) < bd) ↔ 1 ≤ ix h (o * 24 + l)) := fun l l0 l1 => by
    rw [hh l l0 l1]
    by_cases z : 1 ≤ ix oha (o * 24 + l) ∧ ix ost (o * 24 + l) < bd
    · rw [if_pos z]; exact ⟨fun _ => z.1, fun _ => z⟩
    · rw [if_neg z]; exact ⟨fun y => absurd y z, fun y => absurd y (by decide)⟩
  have s3 := NLs_iff s2 i1
  have eL3 : L3 = L := NLs_uniq u2 s3
  have eL2 : L2 = L := NLs_uniq (NLs_iff t2 (fun l l0 l1 => ⟨fun z => z.1, fun z => ⟨z, bk_big (st l l0 l1).2⟩⟩)) s3
  subst eL3 eL2
  obtain ⟨L0, L24, hL1, hLm⟩ : 0 ≤ L2 ∧ L2 < 24 ∧ 1 ≤ ix h (o * 24 + L2) ∧ ∀ l : Int32, 0 ≤ l → l < 24 → 1 ≤ ix h (o * 24 + l) → 2000 - ix ost (o * 24 + L2) < 2000 - ix ost (o * 24 + l) ∨ (2000 - ix ost (o * 24 + L2) = 2000 - ix ost (o * 24 + l) ∧ L2 ≤ l) := by
    rcases s3 with ⟨z1, z2⟩ | z
    · exfalso
      have : hsm h o = 0 := hsm_0 (fun m m0 m1 => by
        exact bk_not (z2 m m0 m1) (hge m m0 m1))
      rw [this] at ls
      exact absurd (Int32.lt_of_lt_of_le hlf ls) (by decide)
    · exact z
  obtain ⟨x1, x2, x3, x4⟩ := hH o L2 o0 o1 L0 L24
  have Llcn : L2 < lcn := by
    by_cases z : lcn ≤ L2
    · rw [x4 z] at hL1; exact absurd hL1 (by decide)
    · exact Int32.not_le.mp z
  have oh : ix oha (o * 24 + L2) = ix h (o * 24 + L2) := by
    have z := (i1 L2 L0 L24).mpr hL1
    rw [hh L2 L0 L24, if_pos z]
  have bdL : ix ost (o * 24 + L2) < bd := ((i1 L2 L0 L24).mpr hL1).2
  have cp := cnt_pos (h := h) o0 o40 L0 L24 hL1
  have cr := (cnt_rng (h := h) (o := o)).2
  obtain ⟨k24, k24'⟩ := bk_k k0 k1 kc cp cr
  obtain ⟨t, ht⟩ : ∃ t : Int32, t = if ix h (o * 24 + L2) < lf then ix h (o * 24 + L2) else lf := ⟨_, rfl⟩
  obtain ⟨tt1, tt2, tt3, tt4, tt5, tt6, tt7, lfn, tt8, tt9, tt10⟩ := bk_t hL1 x3 hlf lf1 q1 ht
  obtain ⟨h', hh'⟩ : ∃ h', h' = upd h (o * 24 + L2).toNatClampNeg (ix h (o * 24 + L2) - t) := ⟨_, rfl⟩
  have hrow : ∀ n m : Int32, 0 ≤ n → n < 40 → 0 ≤ m → m < 24 → ix h' (n * 24 + m) = if n = o ∧ m = L2 then ix h (o * 24 + L2) - t else ix h (n * 24 + m) := fun n m n0 n1 m0 m1 => by
    rw [hh']; exact row_upd o0 o40 n0 n1 m0 m1 L0 L24
  -- the row of the model
  obtain ⟨i0, i2, i3, i4, i5, i6, j1, j2, j9, j5, j6, j7, j10, i8, j11, j12, j13⟩ := bk_ix o0 o40 L0 L24
  obtain ⟨wa, hwa⟩ : ∃ wa, wa = upd w' (503 + 24 * o + L2).toNatClampNeg (ix h (o * 24 + L2) - t) := ⟨_, rfl⟩
  obtain ⟨wb, hwb⟩ : ∃ wb, wb = upd wa (11 : Int32).toNatClampNeg (wa (11 : Int32).toNatClampNeg + t) := ⟨_, rfl⟩
  have ag_a : ∀ A B : Int32, 0 ≤ A → (503 + 24 * o + L2 < A ∨ B ≤ 503 + 24 * o + L2) → AG A B w' wa := fun A B hA z => by
    rw [hwa]; exact AG.rf.up hA i0 z
  have ag_b : ∀ A B : Int32, 0 ≤ A → (11 < A ∨ B ≤ 11) → AG A B wa wb := fun A B hA z => by
    rw [hwb]; exact AG.rf.up hA (by decide) z
  have G1 : AG 0 11 w' wb := (ag_a 0 11 (by decide) (Or.inr j5)).tr (ag_b 0 11 (by decide) (Or.inr (by decide)))
  have G2 : AG 12 503 w' wb := (ag_a 12 503 (by decide) (Or.inr j6)).tr (ag_b 12 503 (by decide) (Or.inl (by decide)))
  have G3 : AG 12 (503 + 24 * o) w' wb := (ag_a 12 _ (by decide) (Or.inr i3)).tr (ag_b 12 _ (by decide) (Or.inl (by decide)))
  have G4 : AG (503 + 24 * o + 24) 2450 w' wb := (ag_a _ 2450 j2 (Or.inl i4)).tr (ag_b _ 2450 j2 (Or.inl j7))
  have w11 : wb 11 = w 11 + (q - lf) + t := by
    have z : wb (11 : Int32).toNatClampNeg = wa (11 : Int32).toNatClampNeg + t := by rw [hwb, upd_same]
    have z2 : wa 11 = w' 11 := ag_a 0 12 (by decide) (Or.inr j9) 11 (by decide) (by decide)
    rw [show wb 11 = _ from z, show wa (11 : Int32).toNatClampNeg = w' 11 from z2, b1]
  have Hb : ∀ n m : Int32, 0 ≤ n → n < ocn → 0 ≤ m → m < 24 → ix wb (503 + 24 * n + m) = ix h' (n * 24 + m) := fun n m n0 n1 m0 m1 => by
    have n40 : n < 40 := bk_lt n n1 oc
    obtain ⟨y, y2, -, -, -, -, -, -, y3, -⟩ := bk_ix n0 n40 m0 m1
    rw [hrow n m n0 n40 m0 m1, ag_b 12 1463 (by decide) (Or.inl (by decide)) _ y3 y2, hwa]
    by_cases z : n = o ∧ m = L2
    · rw [if_pos z, z.1, z.2]; exact upd_same
    · rw [if_neg z]
      have : 503 + 24 * n + m ≠ 503 + 24 * o + L2 := fun e => z (bk_inj n0 n40 m0 m1 o0 o40 L0 L24 e)
      exact (upd_ne i0 y this).trans (hH n m n0 n1 m0 m1).1
  have Hh : ∀ n m : Int32, 0 ≤ n → n < ocn → 0 ≤ m → m < 24 → 0 ≤ ix h' (n * 24 + m) ∧ ix h' (n * 24 + m) ≤ ix h (n * 24 + m) := fun n m n0 n1 m0 m1 => by
    have n40 : n < 40 := bk_lt n n1 oc
    rw [hrow n m n0 n40 m0 m1]
    by_cases z : n = o ∧ m = L2
    · rw [if_pos z, z.1, z.2]; exact ⟨tt9, tt10⟩
    · rw [if_neg z]; exact ⟨(hH n m n0 n1 m0 m1).2.1, Int32.le_refl _⟩
  have hPb : QP plc rom lcn a b c wb := QP_ag p2 (G2.sub (by decide) (by decide)) hP
  have QHof : ∀ w2 : Nat → Int32, AG 159 2450 wb w2 → QH ocn lcn h' w2 := fun w2 hg n m n0 n1 m0 m1 => by
    obtain ⟨y1, y2, y3, y4⟩ := hH n m n0 n1 m0 m1
    obtain ⟨v1, v2⟩ := Hh n m n0 n1 m0 m1
    obtain ⟨-, -, -, -, -, -, -, -, -, -, -, -, -, ya, yb, -⟩ := bk_ix n0 (bk_lt n n1 oc) m0 m1
    exact ⟨(hg _ yb ya).trans (Hb n m n0 n1 m0 m1), v1, Int32.le_trans v2 y3, fun z => by rw [y4 z] at v2; exact Int32.le_antisymm v2 v1⟩
  have Hle : ∀ n m : Int32, 0 ≤ n → n < ocn → 0 ≤ m → m < 24 → ix h' (n * 24 + m) ≤ ix oha (n * 24 + m) := fun n m n0 n1 m0 m1 => Int32.le_trans (Hh n m n0 n1 m0 m1).2 (hle n m n0 n1 m0 m1)
  have hsr := hsm_rng (h := h) (o := o) (fun m m0 m1 => ⟨(hH o m o0 o1 m0 m1).2.1, (hH o m o0 o1 m0 m1).2.2.1⟩)
  have hsu : hsm h' o = hsm h o - t := by
    rw [hh', hsm_upd o0 o40 L0 L24]; grind
  have cu : cnt h' o = cnt h o - if 1 ≤ ix h (o * 24 + L2) - t then 0 else 1 := by rw [hh', cnt_upd o0 o40 L0 L24 hL1]
  have base := bk_base k0 k24 hlf lf1 q1 tt1 tt2 tt4 kc cp cr cu hsu ls hsr.2
  have hh2 : 0 < lf - t → ∀ l : Int32, 0 ≤ l → l < 24 → ix h' (o * 24 + l) = if 1 ≤ ix oha (o * 24 + l) ∧ ix ost (o * 24 + l) < ix ost (o * 24 + L2) then ix oha (o * 24 + l) else 0 := fun z l l0 l1 => by
    rw [hrow o l o0 o40 l0 l1]
    by_cases e : l = L2
    · have yn : ¬ (1 ≤ ix oha (o * 24 + L2) ∧ ix ost (o * 24 + L2) < ix ost (o * 24 + L2)) := fun y => Int32.lt_irrefl y.2
      rw [if_pos ⟨rfl, e⟩, e, if_neg yn, tt4 z, Int32.sub_self]
    · rw [if_neg (fun y => e y.2), hh l l0 l1]
      by_cases e2 : 1 ≤ ix oha (o * 24 + l) ∧ ix ost (o * 24 + l) < bd
      · rw [if_pos e2]
        have y3 : ix ost (o * 24 + l) ≠ ix ost (o * 24 + L2) := fun y4 => e (gu o l L2 o0 o1 l0 l1 L0 L24 e2.1 (by rw [oh]; exact hL1) y4)
        rw [if_pos ⟨e2.1, bk_ost (bd := bd) (st l l0 l1).1 (st l l0 l1).2 (st L2 L0 L24).1 (st L2 L0 L24).2 y3 (hLm l l0 l1 ((i1 l l0 l1).mp e2))⟩]
      · rw [if_neg e2, if_neg (fun y => e2 ⟨y.1, Int32.lt_trans y.2 bdL⟩)]
  -- the class's calls
  have k1' : f_X2_piecesOf o L2 ocn oha = some (ix h (o * 24 + L2)) := by rw [n_piecesOf o L2 ocn oha oc o0 o1 L0 L24, oh]
  have k2' := n_piecesOf o L2 ocn h oc o0 o1 L0 L24
  have k3 := n_stampOf o L2 ocn ost oc o0 o1 L0 L24
  have k4 : f_X2_takeBack o L2 t ocn h = some h' := by rw [n_takeBack oc o0 o1 L0 L24, hh']
  have k5 := n_isWaste (tod := tod) (lla := lla) (lst := lst) c1 L0 Llcn
  have k6 : f_X1_exists L2 lcn = some 1 := by rw [n_exL L2 lcn c1, if_pos ⟨L0, Llcn⟩]
  have k7 : f_Y8_has o L2 w' = some (ix h (o * 24 + L2)) := by rw [n_has o L2 w' o0 o40 L0 L24, x1]
  -- the model's step
  have mstep : ∀ (r2 : Int32) (w2 : Nat → Int32), f_Y8_takesBack L2 t wa near = some (r2, w2) → ∀ n3x c_raised c_undos c_eldest c_kept c_copy, f_Y8_giveBack_L70 o n3x c_raised c_undos c_eldest c_kept c_copy near m4 lf w' = some (.inl (m4 + r2, lf - t, w2)) := by
    intro r2 w2 hz n3x c_raised c_undos c_eldest c_kept c_copy
    have x1' : w' (503 + 24 * o + L2).toNatClampNeg = ix h (o * 24 + L2) := x1
    unfold f_Y8_giveBack_L70
    rw [if_neg lfn, u1]
    simp only [bnd1, Option.bind_some]
    rw [k7]
    simp only [Option.bind_some]
    unfold f_Y8_giveBack_L70_J106
    rw [gd_2450 i0 i8, gd_2450 i0 i8, gd_2450 i0 i8, gd_2450 i0 i8, x1']
    by_cases z : lf ≤ ix h (o * 24 + L2)
    · have ht2 : t = lf := tt6 z
      rw [if_pos z, ← ht2, ← hwa, hz]
      rfl
    · have ht2 : t = ix h (o * 24 + L2) := tt7 z
      rw [if_neg z]
      rw [← ht2] at hwa ⊢
      rw [← hwa, hz]
      rfl
  obtain ⟨y1, y2, y3, y4, y5, y6, y7, y8, y9, y10, y11, y12⟩ := hL L2 L0 Llcn
  obtain ⟨q2, q3, q4, q5, q6, q7, q8, q9, q10, q11⟩ := bk_lots L0 L24
  have z1 : wb (279 + L2).toNatClampNeg = ix lst L2 := (G2 (279 + L2) q8 q10).trans ((g3 _ q6 (bk_lo q10 o0 o40)).trans y10)
  have z2 : wb (231 + L2).toNatClampNeg = ix lla L2 := (G2 (231 + L2) q9 q11).trans ((g3 _ q7 (bk_lo q11 o0 o40)).trans y4)
  have z3 : wb (0 : Int32).toNatClampNeg = tod := (G1 0 (by decide) (by decide)).trans e0
  -- waste, or not
  by_cases hwst : ix lst L2 = 2 ∨ ¬ tod ≤ ix lla L2
  · obtain ⟨wc, hwc⟩ : ∃ wc, wc = upd wb (12 : Int32).toNatClampNeg (wb (12 : Int32).toNatClampNeg + t) := ⟨_, rfl⟩
    have ew : f_X1_isWaste L2 tod lcn lla lst = some 1 := by
      rw [k5]
      rcases hwst with z | z
      · rw [if_pos z]
      · by_cases z' : ix lst L2 = 2
        · rw [if_pos z']
        · rw [if_neg z', if_neg z]
    have mt : f_Y8_takesBack L2 t wa near = some (0, wc) := by
      unfold f_Y8_takesBack f_Y8_takesBack_J44
      rw [gd_2450 (by decide) (by decide), gd_2450 (by decide) (by decide), gd_2450 q2 q3, gd_2450 q4 q5, gd_2450 (by decide) (by decide), ← hwb, z1, z2, z3, gd_2450 (by decide) (by decide), gd_2450 (by decide) (by decide), ← hwc]
      by_cases z' : ix lst L2 = 2
      · rw [if_pos z']
      · rw [if_neg z', if_neg (by rcases hwst with z | z; exact absurd z z'; exact z)]
    have agc : ∀ A B : Int32, 0 ≤ A → (12 < A ∨ B ≤ 12) → AG A B wb wc := fun A B hA z => by
      rw [hwc]; exact AG.rf.up hA (by decide) z
    refine ⟨n3, lf - t, ix ost (o * 24 + L2), scr + t, a, b, c, h', m4 + 0, wc, ?_, ?_, mstep 0 wc mt, ?_, k24⟩
    · unfold f_X7_placesForReturn_L13 f_X7_placesForReturn_L13_J128
      rw [if_neg k24', if_neg lfn, s1]
      simp only [bnd1, Option.bind_some]
      rw [k6]
      simp only [Option.bind_some]
      rw [if_neg one_ne, k1']
      simp only [Option.bind_some]
      rw [ew]
      simp only [Option.bind_some]
      rw [if_neg one_ne, k3, ← ht]
      rfl
    · unfold f_X7_takeBack_L8 f_X7_takeBack_L8_J158
      rw [if_neg k24', if_neg lfn, t1]
      simp only [bnd1, Option.bind_some]
      rw [k6]
      simp only [Option.bind_some]
      rw [if_neg one_ne, k2']
      simp only [Option.bind_some]
      rw [← ht, k4]
      simp only [Option.bind_some]
      rw [ew]
      simp only [Option.bind_some]
      rw [if_neg one_ne]
    · refine ⟨base, hh2, ?_, QP_ag p2 (agc _ _ (by decide) (Or.inl (by decide))) hPb, QHof wc (agc _ _ (by decide) (Or.inl (by decide))), Hle, ?_, ?_, ?_, ?_, ?_, ?_, ?_, ?_, ?_⟩
      · intro z p pp0 pp1
        rcases hp p pp0 pp1 with v | ⟨v1, v2, v3, v4⟩
        · exact Or.inl v
        · refine Or.inr ⟨v1, v2, ?_, v4⟩
          rw [hrow o _ o0 o40 v1 v2, if_neg (fun y => by rw [← y.2, v3] at hL1; exact absurd hL1 (by decide)), v3]
      · exact (g1.tr G1).tr (agc _ _ (by decide) (Or.inr (by decide)))
      · exact (g2.tr (G2.sub (by decide) (by decide))).tr (agc _ _ (by decide) (Or.inl (by decide)))
      · exact (g3.tr (G3.sub (by decide) (Int32.le_refl _))).tr (agc _ _ (by decide) (Or.inl (by decide)))
      · exact (g4.tr G4).tr (agc _ _ j2 (Or.inl j10))
      · rw [show wc 11 = wb 11 from agc 0 12 (by decide) (Or.inr (by decide)) 11 (by decide) (by decide), w11]; grind
      · have z4 : wb 12 = w' 12 := G2 12 (by decide) (by decide)
        have z5 : wc (12 : Int32).toNatClampNeg = wb (12 : Int32).toNatClampNeg + t := by rw [hwc, upd_same]
        rw [show wc 12 = _ from z5, show wb (12 : Int32).toNatClampNeg = w' 12 from z4, b2]; grind
      · rw [hs]; grind
      · have z := bk_fin1 (scr := scr) n0 n1 m0 m1 hlf lf1 q1 tt1 tt2 0 0 (by decide) (Int32.le_trans (by decide) tt1) (by decide) (Int32.le_trans (by decide) tt1)
        rw [Int32.add_zero] at z
        exact z
      · rw [Int32.add_zero]; exact hf
  · have hw1 : ¬ ix lst L2 = 2 := fun z => hwst (Or.inl z)
    have hw2 : tod ≤ ix lla L2 := by
      by_cases z : tod ≤ ix lla L2
      · exact z
      · exact absurd (Or.inr z) hwst
    have ew : f_X1_isWaste L2 tod lcn lla lst = some 0 := by rw [k5, if_neg hw1, if_pos hw2]
    have hwb1 : wb 1 * wb 2 = plc := by
      rw [show wb 1 = w' 1 from G1 1 (by decide) (by decide), show wb 2 = w' 2 from G1 2 (by decide) (by decide), e1, e2]; exact hw
    have hwb3 : wb 3 = rom := (G1 3 (by decide) (by decide)).trans e3
    have frb := frs_rng (ppc := b) pz p2
    have frc := frs_rng (ppc := ppc) pz p2
    obtain ⟨x, aa, bb, cc', l', p', k', w1', w2, r, u, cc, v1, v2, v3, v4, v5, v6, v7, v8, v9, v10, v11, v12, v13, v14, v15, v16, v17, v18⟩ := s_tk (L := L2) (t := t) p1 p2 r1 r2 hwb1 hwb3 hPb hR L0 Llcn tt1 tt8
    have er : rbs plc rom a b L2 = rbs plc rom plot ppc L2 := rbs_eq (fun n n0 n1 => by
      rcases hp n n0 n1 with z | ⟨z1, z2, z3, z4⟩
      · exact Or.inl z
      · have ne : ix a n ≠ L2 := fun y => by rw [← y, z3] at hL1; exact absurd hL1 (by decide)
        refine Or.inr ⟨fun y => ?_, fun y => ne y.2⟩
        rcases z4 with z4 | z4
        · rw [z4] at y; exact absurd y.1 (by decide)
        · exact ne (z4.symm.trans y.2))
    rw [er] at v12
    have mt : f_Y8_takesBack L2 t wa near = some (r, w2) := by
      unfold f_Y8_takesBack
      rw [gd_2450 (by decide) (by decide), gd_2450 (by decide) (by decide), gd_2450 q2 q3, gd_2450 q4 q5, gd_2450 (by decide) (by decide), ← hwb, z1, z2, z3, if_neg hw1, if_pos hw2, v3]
      simp only [bnd2, Option.bind_some]
      rw [v4]
      rfl
    have rb := n_roomBeside (rom := rom) (l := L2) (plot := plot) (ppc := ppc) pz p2
    refine ⟨n3 + cc, lf - t, ix ost (o * 24 + L2), scr, l', p', k', h', m4 + r, w2, ?_, ?_, mstep r w2 mt, ?_, k24⟩
    · unfold f_X7_placesForReturn_L13 f_X7_placesForReturn_L13_J128
      rw [if_neg k24', if_neg lfn, s1]
      simp only [bnd1, Option.bind_some]
      rw [k6]
      simp only [Option.bind_some]
      rw [if_neg one_ne, k1']
      simp only [Option.bind_some]
      rw [ew]
      simp only [Option.bind_some, ↓reduceIte]
      rw [rb, ← ht]
      simp only [Option.bind_some]
      rw [v12]
      simp only [Option.bind_some]
      rw [k3]
      rfl
    · unfold f_X7_takeBack_L8 f_X7_takeBack_L8_J158
      rw [if_neg k24', if_neg lfn, t1]
      simp only [bnd1, Option.bind_some]
      rw [k6]
      simp only [Option.bind_some]
      rw [if_neg one_ne, k2']
      simp only [Option.bind_some]
      rw [← ht, k4]
      simp only [Option.bind_some]
      rw [ew]
      simp only [Option.bind_some, ↓reduceIte]
      rw [v1]
      simp only [bnd4, Option.bind_some]
      rw [v2]
      rfl
    · refine ⟨base, hh2, ?_, v5, QHof w2 v7, Hle, ?_, ?_, ?_, ?_, ?_, ?_, ?_, ?_, ?_⟩
      · intro z p pp0 pp1
        have hz0 : ix h' (o * 24 + L2) = 0 := by rw [hrow o L2 o0 o40 L0 L24, if_pos ⟨rfl, rfl⟩, tt4 z]; grind
        rcases v11 p pp0 pp1 with ⟨s1', s2'⟩ | ⟨s1', s2'⟩
        · rcases hp p pp0 pp1 with ⟨v1', v2'⟩ | ⟨v1', v2', v3', v4'⟩
          · exact Or.inl ⟨s1'.trans v1', s2'.trans v2'⟩
          · refine Or.inr ⟨by rw [s1']; exact v1', by rw [s1']; exact v2', ?_, by rw [s1']; exact v4'⟩
            rw [s1', hrow o _ o0 o40 v1' v2', if_neg (fun y => by rw [← y.2, v3'] at hL1; exact absurd hL1 (by decide)), v3']
        · refine Or.inr ⟨by rw [s1']; exact L0, by rw [s1']; exact L24, by rw [s1']; exact hz0, ?_⟩
          rw [s1']
          rcases hp p pp0 pp1 with ⟨v1', v2'⟩ | ⟨v1', v2', v3', v4'⟩
          · rw [← v1', ← v2']; exact s2'
          · exfalso
            rcases s2' with s2' | s2'
            · obtain ⟨-, -, -, -, -, t6⟩ := hP p pp0 pp1
              rcases t6 with ⟨t6, t7⟩ | ⟨t6, -, -⟩
              · rw [t7] at v1'; exact absurd v1' (by decide)
              · rw [s2'] at t6; exact absurd t6 (by decide)
            · rw [s2'] at v3'; rw [v3'] at hL1; exact absurd hL1 (by decide)
      · exact (g1.tr G1).tr (v6.sub (by decide) (by decide))
      · exact (g2.tr (G2.sub (by decide) (by decide))).tr (v6.sub (by decide) (by decide))
      · exact (g3.tr (G3.sub (by decide) (Int32.le_refl _))).tr (v7.sub (by decide) j12)
      · exact (g4.tr G4).tr (v7.sub j13 (by decide))
      · rw [show w2 11 = wb 11 from v6 11 (by decide) (by decide), w11]; grind
      · rw [show w2 12 = wb 12 from v6 12 (by decide) (by decide), show wb 12 = w' 12 from G2 12 (by decide) (by decide), b2]
      · rw [v8, hs]; grind
      · exact bk_fin1 (scr := scr) n0 n1 m0 m1 hlf lf1 q1 tt1 tt2 r cc v9 v10 v13 v14
      · exact bk_fin2 n0 n1 m0 m1 hlf lf1 q1 tt1 tt2 v9 v10 v13 v14 frc.1 frc.2 frb.1 frb.2 v16 v17 v15 hf v18
theorem s_back {o q tod rom plc lcn ocn prods gif : Int32} {plot ppc pmk pbd lpr lla lco lst oha ost near w : Nat → Int32} (n3x c_raised c_undos c_eldest : Int32) (c_kept c_copy : Nat → Int32)
    (p1 : 1 ≤ plc) (p2 : plc ≤ 48) (r1 : 1 ≤ rom) (r2 : rom ≤ 20) (hw : w 1 * w 2 = plc) (hr : w 3 = rom) (hd : w 0 = tod) (h6 : w 6 = lcn) (c0 : 0 ≤ lcn) (c1 : lcn ≤ 24) (o0 : 0 ≤ o) (o1 : o < ocn) (oc : ocn ≤ 40) (q0 : 1 ≤ q) (q1 : q ≤ 50)
    (hP : QP plc rom lcn plot ppc pmk w) (hL : QL lcn prods lpr lla lco lst w) (hR : QR plc pbd near) (hG : QG ocn gif oha ost w) (gf : gif ≤ 2000) (hH : QH ocn lcn oha w) (hq : q ≤ hsm oha o) :
    ∃ need scr l' p' k' h' m w', f_X7_placesForReturn o q tod rom plc plot ppc lcn lla lst ocn oha ost = some need ∧ f_X7_takeBack o q tod rom plc plot ppc pmk pbd lcn lla lst ocn oha ost = some (scr, l', p', k', h') ∧
      loop (fun z : Int32 × Int32 × (Nat → Int32) => f_Y8_giveBack_L70 o n3x c_raised c_undos c_eldest c_kept c_copy near z.1 z.2.1 z.2.2) fu (0, q, w) = some (m, w') ∧ (m = 0 ↔ need ≤ frs plc ppc) ∧
      QP plc rom lcn l' p' k' w' ∧ QH ocn lcn h' w' ∧ (∀ n m : Int32, 0 ≤ n → n < ocn → 0 ≤ m → m < 24 → ix h' (n * 24 + m) ≤ ix oha (n * 24 + m)) ∧
      AG 0 11 w w' ∧ AG 13 15 w w' ∧ AG 159 (503 + 24 * o) w w' ∧ AG (503 + 24 * o + 24) 2450 w w' ∧ w' 11 = w 11 + q ∧ w' 12 = w 12 + scr ∧
      isum (ix p') plc.toNatClampNeg = isum (ix ppc) plc.toNatClampNeg + (q - scr - m) := by
  have o40 : o < 40 := bk_lt o o1 oc
  have pz : 0 ≤ plc := Int32.le_trans (by decide) p1
  have st : ∀ m : Int32, 0 ≤ m → m < 24 → 0 ≤ ix ost (o * 24 + m) ∧ ix ost (o * 24 + m) ≤ 2000 := fun m m0 m1 => by
    obtain ⟨-, y1, y2, -⟩ := hG.2.2.1 o m o0 o1 m0 m1
    exact ⟨y1, Int32.le_trans y2 gf⟩
  have frc := frs_rng (ppc := ppc) pz p2
  obtain ⟨x, y, z, x1, y1, z1, hx⟩ := lp_rel3 (f := fun z : Int32 × Int32 × Int32 × Int32 => f_X7_placesForReturn_L13 o tod rom plc plot ppc lcn lla lst ocn oha ost z.1 z.2.1 z.2.2.1 z.2.2.2)
    (g := fun z : Int32 × Int32 × Int32 × (Nat → Int32) × (Nat → Int32) × (Nat → Int32) × (Nat → Int32) => f_X7_takeBack_L8 o tod rom plc pbd lcn lla lst ocn ost z.1 z.2.1 z.2.2.1 z.2.2.2.1 z.2.2.2.2.1 z.2.2.2.2.2.1 z.2.2.2.2.2.2)
    (h := fun z : Int32 × Int32 × (Nat → Int32) => f_Y8_giveBack_L70 o n3x c_raised c_undos c_eldest c_kept c_copy near z.1 z.2.1 z.2.2)
    (fun s t u => s.2.1 = t.2.1 ∧ s.2.1 = u.2.1 ∧ s.2.2.2 = t.2.2.1 ∧ BK o q rom plc lcn ocn plot ppc oha ost w s.1 s.2.1 s.2.2.1 s.2.2.2 t.1 t.2.2.2.1 t.2.2.2.2.1 t.2.2.2.2.2.1 t.2.2.2.2.2.2 u.1 u.2.2)
    (fun e d c => ∃ n3 scr l' p' k' h' m w' bd k, e = .inr n3 ∧ d = .inr (scr, l', p', k', h') ∧ c = (m, w') ∧ BK o q rom plc lcn ocn plot ppc oha ost w n3 0 bd k scr l' p' k' h' m w')
    (fun s => msr s.2.2.2 24) (by
      rintro ⟨n3, lf, bd, k⟩ ⟨scr, lf2, k2, a, b, c, h⟩ ⟨m4, lf3, w'⟩ ⟨e1, e2, e3, hB⟩
      dsimp only at e1 e2 e3 hB ⊢
      subst e1 e2 e3
      by_cases hlf : 0 < lf
      · obtain ⟨n3', lf', bd', scr', a', b', c', h', m4', w2, s1, s2, s3, s4, s5⟩ := bk_step p1 p2 r1 r2 hw hr hd h6 c0 c1 o0 o1 oc q1 hP hL hR hG gf hH hB hlf
        exact Or.inl ⟨_, _, _, s1, s2, s3 n3x c_raised c_undos c_eldest c_kept c_copy, ⟨rfl, rfl, rfl, s4⟩, msr_lt s5⟩
      · right
        have lz : lf ≤ 0 := Int32.not_lt.mp hlf
        have l0 : lf = 0 := Int32.le_antisymm lz hB.1.2.2.1
        have u1 : f_Y8_giveBack_L70 o n3x c_raised c_undos c_eldest c_kept c_copy near m4 lf w' = some (.inr (m4, w')) := by
          unfold f_Y8_giveBack_L70; rw [if_pos lz]
        have u2 : f_X7_placesForReturn_L13 o tod rom plc plot ppc lcn lla lst ocn oha ost n3 lf bd k = some (.inr (.inr n3)) := by
          unfold f_X7_placesForReturn_L13
          by_cases hk : 24 ≤ k
          · rw [if_pos hk]
          · rw [if_neg hk, if_pos lz]
        have u3 : f_X7_takeBack_L8 o tod rom plc pbd lcn lla lst ocn ost scr lf k a b c h = some (.inr (.inr (scr, a, b, c, h))) := by
          unfold f_X7_takeBack_L8
          by_cases hk : 24 ≤ k
          · rw [if_pos hk]
          · rw [if_neg hk, if_pos lz]
        refine ⟨_, _, _, u2, u3, u1, n3, scr, a, b, c, h, m4, w', bd, k, rfl, rfl, rfl, ?_⟩
        rw [← l0]; exact hB) fu (0, q, 2147483647, 0) (0, q, 0, plot, ppc, pmk, oha) (0, q, w) ⟨rfl, rfl, rfl, by
      dsimp only
      have cr := (cnt_rng (h := oha) (o := o))
      refine ⟨⟨by decide, by decide, Int32.le_trans (by decide) q0, Int32.le_refl _, fun _ => by rw [Int32.zero_add]; exact cr.2, hq⟩, fun _ l l0 l1 => ?_, fun _ p _ _ => Or.inl ⟨rfl, rfl⟩, hP, hH, fun n m _ _ _ _ => Int32.le_refl _, AG.rf, AG.rf, AG.rf, AG.rf, by rw [Int32.sub_self, Int32.add_zero], by rw [Int32.add_zero], by rw [Int32.sub_self, Int32.sub_self, Int32.sub_self, Int32.add_zero], by rw [Int32.sub_self]; exact ⟨by decide, by decide, by decide, by decide⟩, Or.inl ⟨rfl, by rw [Int32.sub_zero]⟩⟩
      obtain ⟨-, v1, -, -⟩ := hH o l o0 o1 l0 l1
      by_cases e : 1 ≤ ix oha (o * 24 + l)
      · rw [if_pos ⟨e, bk_big (st l l0 l1).2⟩]
      · rw [if_neg (fun y => e y.1)]; exact bk_not e v1⟩ (msr_fu (by dsimp only; decide) (by decide))
  obtain ⟨n3, scr, l', p', k', h', m, w', bd, k, rfl, rfl, rfl, hB⟩ := hx
  obtain ⟨⟨k0, k1, lf0, lf1, kc, ls⟩, hh, hp, hP', hH', hle, g1, g2, g3, g4, b1, b2, hs, ⟨n0, n1, m0, m1⟩, hf⟩ := hB
  rw [Int32.sub_zero] at b1 hs n1 m1
  refine ⟨n3, scr, l', p', k', h', m, w', ?_, ?_, z1, ?_, hP', hH', hle, g1, g2, g3, g4, b1, b2, hs⟩
  · unfold f_X7_placesForReturn; rw [x1]; rfl
  · unfold f_X7_takeBack; rw [y1]; rfl
  · have frp := frs_rng (ppc := p') pz p2
    clear z1 x1 y1 hP hL hR hG hH hP' hH' hle g1 g2 g3 g4 hh hp
    rcases hf with ⟨f1, f2⟩ | ⟨f1, f2⟩
    · rw [f2] at frp
      exact ⟨fun _ => by grind, fun _ => f1⟩
    · exact ⟨fun z => by grind, fun z => by grind⟩
theorem zsum_le {f g : Nat → Int32} : ∀ k : Nat, (∀ j, j < k → (g j).toInt ≤ (f j).toInt) → zsum g k ≤ zsum f k := by
  intro k
  induction k with
  | zero => intro _; exact Int.le_refl _
  | succ k ih =>
    intro h
    have a := ih (fun j hj => h j (by omega))
    have b := h k (by omega)
    unfold zsum
    omega
theorem QS_le {ocn gif : Int32} {oop oha oha' : Nat → Int32} (oc : ocn ≤ 40) (q : QS ocn gif oop oha) (h : ∀ n m : Int32, 0 ≤ n → n < ocn → 0 ≤ m → m < 24 → ix oha' (n * 24 + m) ≤ ix oha (n * 24 + m)) : QS ocn gif oop oha' := by
  refine ⟨fun n n0 n1 => ?_, q.2⟩
  have a := q.1 n n0 n1
  have b : zsum (fun k => oha' ((n * 24).toNatClampNeg + k)) 24 ≤ zsum (fun k => oha ((n * 24).toNatClampNeg + k)) 24 := by
    refine zsum_le 24 (fun j hj => ?_)
    obtain ⟨m, m0, m1, e, -⟩ := row_ix n0 (bk_lt n n1 oc) hj
    rw [e]
    exact Int32.le_iff_toInt_le.mp (h n m n0 n1 m0 m1)
  omega
theorem QG_back {ocn gif o lcn : Int32} {oha oha' ost w w' : Nat → Int32} (c0 : 0 ≤ ocn) (oc : ocn ≤ 40) (o0 : 0 ≤ o) (o1 : o < ocn) (q : QG ocn gif oha ost w) (h : ∀ n m : Int32, 0 ≤ n → n < ocn → 0 ≤ m → m < 24 → ix oha' (n * 24 + m) ≤ ix oha (n * 24 + m)) (g1 : AG 0 11 w w') (g4 : AG (503 + 24 * o + 24) 2450 w w') : QG ocn gif oha' ost w' := by
  obtain ⟨q1, q2, q3, q4, q5⟩ := q
  have o40 := bk_lt o o1 oc
  refine ⟨(g1 8 (by decide) (by decide)).trans q1, q2, ?_, ?_, ?_⟩
  · intro n m n0 n1 m0 m1
    obtain ⟨a, b, c, d⟩ := q3 n m n0 n1 m0 m1
    have e := bk_st n0 (bk_lt n n1 oc) m0 m1
    have e2 : 503 + 24 * o + 24 ≤ 1463 + 24 * n + m := by
      have := bk_ix o0 o40 m0 m1
      clear q3 q4 q5 h g1 g4
      have n40 := bk_lt n n1 oc
      grind
    exact ⟨(g4 _ e2 e.2).trans a, b, c, fun z => d (Int32.le_trans z (h n m n0 n1 m0 m1))⟩
  · intro n m m' n0 n1 m0 m1 m0' m1' z z' e
    exact q4 n m m' n0 n1 m0 m1 m0' m1' (Int32.le_trans z (h n m n0 n1 m0 m1)) (Int32.le_trans z' (h n m' n0 n1 m0' m1')) e
  · intro n m n0 n1 m0 m1
    obtain ⟨a, b⟩ := q5 n m n0 n1 m0 m1
    have e : 503 + 24 * o + 24 ≤ 503 + 24 * n + m ∧ 503 + 24 * n + m < 2450 ∧ 503 + 24 * o + 24 ≤ 1463 + 24 * n + m ∧ 1463 + 24 * n + m < 2450 := by
      clear q3 q4 q5 h g1 g4 a b
      refine ⟨by grind, by grind, by grind, by grind⟩
    exact ⟨(g4 _ e.1 e.2.1).trans a, (g4 _ e.2.2.1 e.2.2.2).trans b⟩
