/-! ===== checks and indices ===== -/
theorem gdx {α : Type} {i : Int32} {n : Nat} {t : Option α} (h0 : 0 ≤ i) (h1 : i.toInt < n) : gd i n t = t := by
  unfold gd
  rw [if_pos]
  rintro (h | h)
  · grind
  · have := Int32.le_iff_toInt_le.mp h0
    have e : (0 : Int32).toInt = 0 := rfl
    rw [e] at this
    have : i.toNatClampNeg = i.toInt.toNat := rfl
    omega
theorem gd_1 {α : Type} {i : Int32} {t : Option α} (h0 : 0 ≤ i) (h1 : i < 1) : gd i 1 t = t := gdx h0 (by have := Int32.lt_iff_toInt_lt.mp h1; exact this)
theorem gd_5 {α : Type} {i : Int32} {t : Option α} (h0 : 0 ≤ i) (h1 : i < 5) : gd i 5 t = t := gdx h0 (by have := Int32.lt_iff_toInt_lt.mp h1; exact this)
theorem gd_6 {α : Type} {i : Int32} {t : Option α} (h0 : 0 ≤ i) (h1 : i < 6) : gd i 6 t = t := gdx h0 (by have := Int32.lt_iff_toInt_lt.mp h1; exact this)
theorem gd_8 {α : Type} {i : Int32} {t : Option α} (h0 : 0 ≤ i) (h1 : i < 8) : gd i 8 t = t := gdx h0 (by have := Int32.lt_iff_toInt_lt.mp h1; exact this)
theorem gd_10 {α : Type} {i : Int32} {t : Option α} (h0 : 0 ≤ i) (h1 : i < 10) : gd i 10 t = t := gdx h0 (by have := Int32.lt_iff_toInt_lt.mp h1; exact this)
theorem gd_11 {α : Type} {i : Int32} {t : Option α} (h0 : 0 ≤ i) (h1 : i < 11) : gd i 11 t = t := gdx h0 (by have := Int32.lt_iff_toInt_lt.mp h1; exact this)
theorem gd_12 {α : Type} {i : Int32} {t : Option α} (h0 : 0 ≤ i) (h1 : i < 12) : gd i 12 t = t := gdx h0 (by have := Int32.lt_iff_toInt_lt.mp h1; exact this)
theorem gd_24 {α : Type} {i : Int32} {t : Option α} (h0 : 0 ≤ i) (h1 : i < 24) : gd i 24 t = t := gdx h0 (by have := Int32.lt_iff_toInt_lt.mp h1; exact this)
theorem gd_40 {α : Type} {i : Int32} {t : Option α} (h0 : 0 ≤ i) (h1 : i < 40) : gd i 40 t = t := gdx h0 (by have := Int32.lt_iff_toInt_lt.mp h1; exact this)
theorem gd_48 {α : Type} {i : Int32} {t : Option α} (h0 : 0 ≤ i) (h1 : i < 48) : gd i 48 t = t := gdx h0 (by have := Int32.lt_iff_toInt_lt.mp h1; exact this)
theorem gd_256 {α : Type} {i : Int32} {t : Option α} (h0 : 0 ≤ i) (h1 : i < 256) : gd i 256 t = t := gdx h0 (by have := Int32.lt_iff_toInt_lt.mp h1; exact this)
theorem gd_366 {α : Type} {i : Int32} {t : Option α} (h0 : 0 ≤ i) (h1 : i < 366) : gd i 366 t = t := gdx h0 (by have := Int32.lt_iff_toInt_lt.mp h1; exact this)
theorem gd_960 {α : Type} {i : Int32} {t : Option α} (h0 : 0 ≤ i) (h1 : i < 960) : gd i 960 t = t := gdx h0 (by have := Int32.lt_iff_toInt_lt.mp h1; exact this)
theorem gd_2450 {α : Type} {i : Int32} {t : Option α} (h0 : 0 ≤ i) (h1 : i < 2450) : gd i 2450 t = t := gdx h0 (by have := Int32.lt_iff_toInt_lt.mp h1; exact this)
theorem gd_10240 {α : Type} {i : Int32} {t : Option α} (h0 : 0 ≤ i) (h1 : i < 10240) : gd i 10240 t = t := gdx h0 (by have := Int32.lt_iff_toInt_lt.mp h1; exact this)
theorem gd_19600 {α : Type} {i : Int32} {t : Option α} (h0 : 0 ≤ i) (h1 : i < 19600) : gd i 19600 t = t := gdx h0 (by have := Int32.lt_iff_toInt_lt.mp h1; exact this)
theorem tn_inj {i j : Int32} (hi : 0 ≤ i) (hj : 0 ≤ j) : i.toNatClampNeg = j.toNatClampNeg ↔ i = j := by
  constructor
  · intro h
    have a := Int32.le_iff_toInt_le.mp hi
    have b := Int32.le_iff_toInt_le.mp hj
    have e : (0 : Int32).toInt = 0 := rfl
    rw [e] at a b
    have h1 : i.toInt.toNat = j.toInt.toNat := h
    exact Int32.toInt_inj.mp (by omega)
  · rintro rfl; rfl
theorem upd_at {f : Nat → Int32} {i j v : Int32} (hi : 0 ≤ i) (hj : 0 ≤ j) : upd f i.toNatClampNeg v j.toNatClampNeg = if j = i then v else f j.toNatClampNeg := by
  unfold upd
  by_cases h : j = i
  · rw [if_pos h, if_pos (by rw [h])]
  · rw [if_neg h, if_neg (fun z => h ((tn_inj hj hi).mp z))]
theorem upd_same {f : Nat → Int32} {i v : Int32} : upd f i.toNatClampNeg v i.toNatClampNeg = v := if_pos rfl
theorem upd_ne {f : Nat → Int32} {i j v : Int32} (hi : 0 ≤ i) (hj : 0 ≤ j) (h : j ≠ i) : upd f i.toNatClampNeg v j.toNatClampNeg = f j.toNatClampNeg := by rw [upd_at hi hj, if_neg h]
theorem gz_ok {α : Type} {y : Int32} {t : Option α} (h : y ≠ 0) : gz y t = t := by
  unfold gz
  rw [if_neg (by simpa using h)]
theorem gb_ok {α : Type} {v : Int32} {t : Option α} (h : v = 0 ∨ v = 1) : gb v t = t := if_pos h
theorem lgc_self (x : Int64) : lg_cmp x x = 0 := by
  unfold lg_cmp
  rw [if_neg (by simp), if_pos rfl]
/-! ===== loops ===== -/
/-- two loops over the same state -/
theorem lp_same {σ ε : Type} {f g : σ → Option (σ ⊕ ε)} (Inv : σ → Prop) (Post : ε → Prop) (μ : σ → Nat)
    (h : ∀ s, Inv s → (∃ s', f s = some (.inl s') ∧ g s = some (.inl s') ∧ Inv s' ∧ μ s' < μ s) ∨ ∃ e, f s = some (.inr e) ∧ g s = some (.inr e) ∧ Post e) :
    ∀ n s, Inv s → μ s < n → ∃ e, loop f n s = some e ∧ loop g n s = some e ∧ Post e := by
  intro n
  induction n with
  | zero => intro s _ h2; exact absurd h2 (Nat.not_lt_zero _)
  | succ n ih =>
    intro s hi hm
    rcases h s hi with ⟨s', h1, k1, h2, h3⟩ | ⟨e, h1, k1, h2⟩
    · obtain ⟨e, h4, k4, h5⟩ := ih s' h2 (by omega)
      exact ⟨e, by simp only [loop, h1]; exact h4, by simp only [loop, k1]; exact k4, h5⟩
    · exact ⟨e, by simp only [loop, h1], by simp only [loop, k1], h2⟩
/-- how far a counter is from its end -/
def msr (n N : Int32) : Nat := (N.toInt - n.toInt).toNat
theorem msr_lt {n N : Int32} (h : n < N) : msr (n + 1) N < msr n N := by
  have h1 := Int32.lt_iff_toInt_lt.mp h
  have h2 := fb_rng N
  have h3 := i_inc (a := n) (by omega)
  unfold msr
  omega
theorem msr_fu {n N : Int32} (h : 0 ≤ n) (hN : N < 90000) : msr n N < fu := by
  have h1 := Int32.le_iff_toInt_le.mp h
  have h2 := Int32.lt_iff_toInt_lt.mp hN
  have e : (0 : Int32).toInt = 0 := rfl
  have e2 : (90000 : Int32).toInt = 90000 := rfl
  unfold msr fu
  omega
/-- the end of a case: both sides' marks and answers agree -/
theorem fin_ok {α : Type} {k : Int32} {o : Nat → Int64} {b : Int64} {t : Option α} (h : k = 0 → o 0 = b) : (if k = k then (if k = 0 then gd 0 1 (if (lg_cmp (o (0 : Int32).toNatClampNeg) b) = 0 then t else none) else t) else none) = t := by
  rw [if_pos rfl]
  by_cases hk : k = 0
  · rw [if_pos hk, gd_1 (by decide) (by decide), if_pos]
    have := h hk
    rw [show (0 : Int32).toNatClampNeg = 0 from rfl, this]
    exact lgc_self b
  · rw [if_neg hk]
abbrev StT.tod (s : StT) : Int32 := s.1
abbrev StT.prods (s : StT) : Int32 := s.2.1
abbrev StT.icnt (s : StT) : Int32 := s.2.2.1
abbrev StT.itm (s : StT) : Nat → Int32 := s.2.2.2.1
abbrev StT.bks (s : StT) : Nat → Int32 := s.2.2.2.2.1
abbrev StT.trm (s : StT) : Nat → Int32 := s.2.2.2.2.2.1
abbrev StT.lan (s : StT) : Int32 := s.2.2.2.2.2.2.1
abbrev StT.pos (s : StT) : Int32 := s.2.2.2.2.2.2.2.1
abbrev StT.rom (s : StT) : Int32 := s.2.2.2.2.2.2.2.2.1
abbrev StT.gp (s : StT) : Int32 := s.2.2.2.2.2.2.2.2.2.1
abbrev StT.plc (s : StT) : Int32 := s.2.2.2.2.2.2.2.2.2.2.1
abbrev StT.pkd (s : StT) : Int64 := s.2.2.2.2.2.2.2.2.2.2.2.1
abbrev StT.plot (s : StT) : Nat → Int32 := s.2.2.2.2.2.2.2.2.2.2.2.2.1
abbrev StT.ppc (s : StT) : Nat → Int32 := s.2.2.2.2.2.2.2.2.2.2.2.2.2.1
abbrev StT.pmk (s : StT) : Nat → Int32 := s.2.2.2.2.2.2.2.2.2.2.2.2.2.2.1
abbrev StT.pbd (s : StT) : Nat → Int32 := s.2.2.2.2.2.2.2.2.2.2.2.2.2.2.2.1
abbrev StT.lcn (s : StT) : Int32 := s.2.2.2.2.2.2.2.2.2.2.2.2.2.2.2.2.1
abbrev StT.lpr (s : StT) : Nat → Int32 := s.2.2.2.2.2.2.2.2.2.2.2.2.2.2.2.2.2.1
abbrev StT.lla (s : StT) : Nat → Int32 := s.2.2.2.2.2.2.2.2.2.2.2.2.2.2.2.2.2.2.1
abbrev StT.lco (s : StT) : Nat → Int32 := s.2.2.2.2.2.2.2.2.2.2.2.2.2.2.2.2.2.2.2.1
abbrev StT.lst (s : StT) : Nat → Int32 := s.2.2.2.2.2.2.2.2.2.2.2.2.2.2.2.2.2.2.2.2.1
abbrev StT.lbl (s : StT) : Nat → Int32 := s.2.2.2.2.2.2.2.2.2.2.2.2.2.2.2.2.2.2.2.2.2.1
abbrev StT.ocn (s : StT) : Int32 := s.2.2.2.2.2.2.2.2.2.2.2.2.2.2.2.2.2.2.2.2.2.2.1
abbrev StT.gif (s : StT) : Int32 := s.2.2.2.2.2.2.2.2.2.2.2.2.2.2.2.2.2.2.2.2.2.2.2.1
abbrev StT.ocu (s : StT) : Nat → Int32 := s.2.2.2.2.2.2.2.2.2.2.2.2.2.2.2.2.2.2.2.2.2.2.2.2.1
abbrev StT.opr (s : StT) : Nat → Int32 := s.2.2.2.2.2.2.2.2.2.2.2.2.2.2.2.2.2.2.2.2.2.2.2.2.2.1
abbrev StT.oop (s : StT) : Nat → Int32 := s.2.2.2.2.2.2.2.2.2.2.2.2.2.2.2.2.2.2.2.2.2.2.2.2.2.2.1
abbrev StT.odu (s : StT) : Nat → Int32 := s.2.2.2.2.2.2.2.2.2.2.2.2.2.2.2.2.2.2.2.2.2.2.2.2.2.2.2.1
abbrev StT.oli (s : StT) : Nat → Int32 := s.2.2.2.2.2.2.2.2.2.2.2.2.2.2.2.2.2.2.2.2.2.2.2.2.2.2.2.2.1
abbrev StT.obd (s : StT) : Nat → Int32 := s.2.2.2.2.2.2.2.2.2.2.2.2.2.2.2.2.2.2.2.2.2.2.2.2.2.2.2.2.2.1
abbrev StT.oha (s : StT) : Nat → Int32 := s.2.2.2.2.2.2.2.2.2.2.2.2.2.2.2.2.2.2.2.2.2.2.2.2.2.2.2.2.2.2.1
abbrev StT.ost (s : StT) : Nat → Int32 := s.2.2.2.2.2.2.2.2.2.2.2.2.2.2.2.2.2.2.2.2.2.2.2.2.2.2.2.2.2.2.2
abbrev nowT (z : LwS) : StT := (z.cp1_now_today, z.cp1_now_products, z.cp1_now_itemCount, z.cp1_now_items, z.cp1_now_books, z.cp1_now_terms, z.cp1_now_shelves_lanes, z.cp1_now_shelves_positions, z.cp1_now_shelves_room, z.cp1_now_shelves_gap, z.cp1_now_shelves_places, z.cp1_now_shelves_picked, z.cp1_now_shelves_lot, z.cp1_now_shelves_pieces, z.cp1_now_shelves_mark, z.cp1_now_shelves_byDistance, z.cp1_now_lots_count, z.cp1_now_lots_product, z.cp1_now_lots_last, z.cp1_now_lots_cost, z.cp1_now_lots_state, z.cp1_now_lots_byLast, z.cp1_now_orders_count, z.cp1_now_orders_gifts, z.cp1_now_orders_customer, z.cp1_now_orders_product, z.cp1_now_orders_open, z.cp1_now_orders_due, z.cp1_now_orders_life, z.cp1_now_orders_byDue, z.cp1_now_orders_had, z.cp1_now_orders_stamps)
/-! ===== the relation ===== -/
abbrev ix (f : Nat → Int32) (n : Int32) : Int32 := f n.toNatClampNeg
/-- the house's numbers -/
def QD (tod prods lan pos rom gp plc lcn ocn : Int32) (w : Nat → Int32) : Prop :=
  w 0 = tod ∧ 0 ≤ tod ∧ tod ≤ 2556 ∧ w 1 = lan ∧ 1 ≤ lan ∧ lan ≤ 6 ∧ w 2 = pos ∧ 1 ≤ pos ∧ pos ≤ 8 ∧ w 3 = rom ∧ 1 ≤ rom ∧ rom ≤ 20 ∧ w 4 = gp ∧ 1 ≤ gp ∧ gp ≤ 5 ∧ plc = lan * pos ∧ 1 ≤ plc ∧ plc ≤ 48 ∧
  w 5 = prods ∧ 0 ≤ prods ∧ prods ≤ 6 ∧ w 6 = lcn ∧ 0 ≤ lcn ∧ lcn ≤ 24 ∧ w 7 = ocn ∧ 0 ≤ ocn ∧ ocn ≤ 40
/-- the books -/
def QB (bks w : Nat → Int32) : Prop := ∀ n : Int32, 0 ≤ n → n < 6 → ix w (9 + n) = ix bks n
/-- the places -/
def QP (plc rom lcn : Int32) (plot ppc pmk w : Nat → Int32) : Prop := ∀ n : Int32, 0 ≤ n → n < plc → ix w (15 + n) = ix plot n ∧ ix w (63 + n) = ix ppc n ∧ ix w (111 + n) = ix pmk n ∧ 0 ≤ ix ppc n ∧ ix ppc n ≤ rom ∧ ((ix ppc n = 0 ∧ ix plot n = -1) ∨ (1 ≤ ix ppc n ∧ 0 ≤ ix plot n ∧ ix plot n < lcn))
/-- the places of the latest wave: a bit each -/
def QK (plc : Int32) (pkd : Int64) (w : Nat → Int32) : Prop := pkd.toBitVec >>> 48 = 0#64 ∧ ∀ n : Int32, 0 ≤ n → n < 48 → (ix w (159 + n) = 0 ∧ (pkd >>> n.toInt64) &&& 1 = 0) ∨ (ix w (159 + n) = 1 ∧ (pkd >>> n.toInt64) &&& 1 = 1 ∧ n < plc)
/-- the lots -/
def QL (lcn prods : Int32) (lpr lla lco lst w : Nat → Int32) : Prop := ∀ n : Int32, 0 ≤ n → n < lcn → ix w (207 + n) = ix lpr n ∧ 0 ≤ ix lpr n ∧ ix lpr n < prods ∧ ix w (231 + n) = ix lla n ∧ 0 ≤ ix lla n ∧ ix lla n ≤ 2556 ∧ ix w (255 + n) = ix lco n ∧ 0 ≤ ix lco n ∧ ix lco n ≤ 9999 ∧ ix w (279 + n) = ix lst n ∧ 0 ≤ ix lst n ∧ ix lst n ≤ 2
/-- the lots by their last days: each once, in their order -/
def QLs (lcn : Int32) (lla lbl : Nat → Int32) : Prop := (∀ n : Int32, 0 ≤ n → n < lcn → 0 ≤ ix lbl n ∧ ix lbl n < lcn) ∧ (∀ a b : Int32, 0 ≤ a → a < b → b < lcn → ix lla (ix lbl a) < ix lla (ix lbl b) ∨ (ix lla (ix lbl a) = ix lla (ix lbl b) ∧ ix lbl a < ix lbl b)) ∧ ∀ l : Int32, 0 ≤ l → l < lcn → ∃ n : Int32, 0 ≤ n ∧ n < lcn ∧ ix lbl n = l
/-- the orders -/
def QO (ocn prods : Int32) (ocu opr oop odu oli w : Nat → Int32) : Prop := ∀ n : Int32, 0 ≤ n → n < ocn → ix w (303 + n) = ix ocu n ∧ 0 ≤ ix ocu n ∧ ix ocu n ≤ 7 ∧ ix w (343 + n) = ix opr n ∧ 0 ≤ ix opr n ∧ ix opr n < prods ∧ ix w (383 + n) = ix oop n ∧ 0 ≤ ix oop n ∧ ix oop n ≤ 50 ∧ ix w (423 + n) = ix odu n ∧ 0 ≤ ix odu n ∧ ix odu n ≤ 2556 ∧ ix w (463 + n) = ix odu n + ix oli n ∧ 0 ≤ ix oli n ∧ ix oli n ≤ 400
/-- what the orders have of the lots -/
def QH (ocn lcn : Int32) (oha w : Nat → Int32) : Prop := ∀ n m : Int32, 0 ≤ n → n < ocn → 0 ≤ m → m < 24 → ix w (503 + 24 * n + m) = ix oha (n * 24 + m) ∧ 0 ≤ ix oha (n * 24 + m) ∧ ix oha (n * 24 + m) ≤ 50 ∧ (lcn ≤ m → ix oha (n * 24 + m) = 0)
/-- the boxes' items -/
def QI (icnt : Int32) (itm w : Nat → Int32) : Prop := w 2423 = icnt ∧ 0 ≤ icnt ∧ icnt ≤ 8 ∧ ∀ n : Int32, 0 ≤ n → n < icnt → ix w (2424 + n) = ix itm n ∧ 1 ≤ ix itm n ∧ ix itm n ≤ 20
/-- wants and costs -/
def QT (trm w : Nat → Int32) : Prop := (∀ n : Int32, 0 ≤ n → n < 5 → ix w (2432 + n) = ix trm n ∧ 0 ≤ ix trm n ∧ ix trm n ≤ 9) ∧ 1 ≤ trm 0 + trm 1 + trm 2 + trm 3 + trm 4 ∧ w 2437 = trm 5 ∧ 0 ≤ trm 5 ∧ trm 5 ≤ 99 ∧ w 2438 = trm 6 ∧ 0 ≤ trm 6 ∧ trm 6 ≤ 20 ∧ w 2439 = trm 7 ∧ 0 ≤ trm 7 ∧ trm 7 ≤ 20 ∧ w 2440 = trm 8 ∧ trm 6 + 1 ≤ trm 8 ∧ trm 8 ≤ 60 ∧ w 2441 = trm 9 ∧ 0 ≤ trm 9 ∧ trm 9 ≤ 20
