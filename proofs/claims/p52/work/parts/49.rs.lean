/-! ===== the whole relation of a state and a row ===== -/
/-- the gifts' stamps; orders that there are not have nothing -/
def QG (ocn gif : Int32) (oha ost w : Nat → Int32) : Prop := w 8 = gif ∧ 0 ≤ gif ∧ (∀ n m : Int32, 0 ≤ n → n < ocn → 0 ≤ m → m < 24 → ix w (1463 + 24 * n + m) = ix ost (n * 24 + m) ∧ 0 ≤ ix ost (n * 24 + m) ∧ ix ost (n * 24 + m) ≤ gif ∧ (1 ≤ ix oha (n * 24 + m) → 1 ≤ ix ost (n * 24 + m))) ∧
  (∀ n m m' : Int32, 0 ≤ n → n < ocn → 0 ≤ m → m < 24 → 0 ≤ m' → m' < 24 → 1 ≤ ix oha (n * 24 + m) → 1 ≤ ix oha (n * 24 + m') → ix ost (n * 24 + m) = ix ost (n * 24 + m') → m = m') ∧
  ∀ n m : Int32, ocn ≤ n → n < 40 → 0 ≤ m → m < 24 → ix w (503 + 24 * n + m) = 0 ∧ ix w (1463 + 24 * n + m) = 0
/-- sums as whole numbers -/
def zsum (f : Nat → Int32) : Nat → Int
  | 0 => 0
  | k + 1 => zsum f k + (f k).toInt
/-- no order has more than it asked for; gifts are no more than the pieces that were asked for -/
def QS (ocn gif : Int32) (oop oha : Nat → Int32) : Prop := (∀ n : Int32, 0 ≤ n → n < ocn → (ix oop n).toInt + zsum (fun k => oha ((n * 24).toNatClampNeg + k)) 24 ≤ 50) ∧ gif.toInt + zsum oop ocn.toNatClampNeg ≤ 50 * ocn.toInt
/-- the books add up -/
def QA (plc : Int32) (bks ppc : Nat → Int32) : Prop := ∃ e : Int32, f_X5_piecesOnHand plc ppc = some e ∧ (bks 0 + bks 2 + bks 5) - (bks 1 + bks 3 + bks 4) = e
/-- the places by distance, as the model lays them in any row -/
def QN (lan pos gp plc : Int32) (pbd : Nat → Int32) : Prop := ∀ (w near0 : Nat → Int32), w 1 = lan → w 2 = pos → w 4 = gp → ∃ near', f_Y8_laysPlaces w near0 = some near' ∧ QR plc pbd near'
def RS (s : StT) (w : Nat → Int32) : Prop := QD s.tod s.prods s.lan s.pos s.rom s.gp s.plc s.lcn s.ocn w ∧ QB s.bks w ∧ QP s.plc s.rom s.lcn s.plot s.ppc s.pmk w ∧ QK s.plc s.pkd w ∧ QL s.lcn s.prods s.lpr s.lla s.lco s.lst w ∧ QLs s.lcn s.lla s.lbl ∧ QO s.ocn s.prods s.ocu s.opr s.oop s.odu s.oli w ∧ QLs s.ocn s.odu s.obd ∧ QH s.ocn s.lcn s.oha w ∧ QG s.ocn s.gif s.oha s.ost w ∧ QS s.ocn s.gif s.oop s.oha ∧ QI s.icnt s.itm w ∧ QT s.trm w ∧ QA s.plc s.bks s.ppc ∧ QN s.lan s.pos s.gp s.plc s.pbd
/-- the same row, as far as a row goes -/
def RE (w w' : Nat → Int32) : Prop := ∀ j : Nat, j < 2442 → w' j = w j
theorem tn_lt {i N : Int32} (h : 0 ≤ i) (h2 : i < N) : i.toNatClampNeg < N.toNatClampNeg := by
  have a := Int32.le_iff_toInt_le.mp h
  have b := Int32.lt_iff_toInt_lt.mp h2
  have e : (0 : Int32).toInt = 0 := rfl
  rw [e] at a
  have h1 : i.toNatClampNeg = i.toInt.toNat := rfl
  have h3 : N.toNatClampNeg = N.toInt.toNat := rfl
  omega
theorem re_ix {w w' : Nat → Int32} (h : RE w w') {i : Int32} (h0 : 0 ≤ i) (h1 : i < 2442) : ix w' i = ix w i := h _ (tn_lt h0 h1)
theorem QD_re {tod prods lan pos rom gp plc lcn ocn : Int32} {w w' : Nat → Int32} (h : RE w w') (q : QD tod prods lan pos rom gp plc lcn ocn w) : QD tod prods lan pos rom gp plc lcn ocn w' := by
  unfold QD at *
  rw [h 0 (by decide), h 1 (by decide), h 2 (by decide), h 3 (by decide), h 4 (by decide), h 5 (by decide), h 6 (by decide), h 7 (by decide)]
  exact q
theorem QB_re {bks w w' : Nat → Int32} (h : RE w w') (q : QB bks w) : QB bks w' := by
  intro n h1 h2
  rw [re_ix h (by grind) (by grind)]; exact q n h1 h2
theorem QP_re {plc rom lcn : Int32} {plot ppc pmk w w' : Nat → Int32} (hc : plc ≤ 48) (h : RE w w') (q : QP plc rom lcn plot ppc pmk w) : QP plc rom lcn plot ppc pmk w' := by
  intro n h1 h2
  rw [re_ix h (i := 15 + n) (by grind) (by grind), re_ix h (i := 63 + n) (by grind) (by grind), re_ix h (i := 111 + n) (by grind) (by grind)]; exact q n h1 h2
theorem QK_re {plc : Int32} {pkd : Int64} {w w' : Nat → Int32} (h : RE w w') (q : QK plc pkd w) : QK plc pkd w' := by
  refine ⟨q.1, ?_⟩
  intro n h1 h2
  rw [re_ix h (i := 159 + n) (by grind) (by grind)]; exact q.2 n h1 h2
theorem QL_re {lcn prods : Int32} {lpr lla lco lst w w' : Nat → Int32} (hc : lcn ≤ 24) (h : RE w w') (q : QL lcn prods lpr lla lco lst w) : QL lcn prods lpr lla lco lst w' := by
  intro n h1 h2
  rw [re_ix h (i := 207 + n) (by grind) (by grind), re_ix h (i := 231 + n) (by grind) (by grind), re_ix h (i := 255 + n) (by grind) (by grind), re_ix h (i := 279 + n) (by grind) (by grind)]; exact q n h1 h2
theorem QO_re {ocn prods : Int32} {ocu opr oop odu oli w w' : Nat → Int32} (hc : ocn ≤ 40) (h : RE w w') (q : QO ocn prods ocu opr oop odu oli w) : QO ocn prods ocu opr oop odu oli w' := by
  intro n h1 h2
  rw [re_ix h (i := 303 + n) (by grind) (by grind), re_ix h (i := 343 + n) (by grind) (by grind), re_ix h (i := 383 + n) (by grind) (by grind), re_ix h (i := 423 + n) (by grind) (by grind), re_ix h (i := 463 + n) (by grind) (by grind)]; exact q n h1 h2
theorem QH_re {ocn lcn : Int32} {oha w w' : Nat → Int32} (hc : ocn ≤ 40) (h : RE w w') (q : QH ocn lcn oha w) : QH ocn lcn oha w' := by
  intro n m h1 h2 h3 h4
  rw [re_ix h (by grind) (by grind)]; exact q n m h1 h2 h3 h4
theorem QG_re {ocn gif : Int32} {oha ost w w' : Nat → Int32} (h0 : 0 ≤ ocn) (hc : ocn ≤ 40) (h : RE w w') (q : QG ocn gif oha ost w) : QG ocn gif oha ost w' := by
  obtain ⟨q1, q2, q3, q4, q5⟩ := q
  refine ⟨by rw [h 8 (by decide)]; exact q1, q2, ?_, q4, ?_⟩
  · intro n m h1 h2 h3 h4
    rw [re_ix h (by grind) (by grind)]; exact q3 n m h1 h2 h3 h4
  · intro n m h1 h2 h3 h4
    rw [re_ix h (by grind) (by grind), re_ix h (by grind) (by grind)]; exact q5 n m h1 h2 h3 h4
theorem QI_re {icnt : Int32} {itm w w' : Nat → Int32} (h : RE w w') (q : QI icnt itm w) : QI icnt itm w' := by
  obtain ⟨q1, q2, q3, q4⟩ := q
  refine ⟨by rw [h 2423 (by decide)]; exact q1, q2, q3, ?_⟩
  intro n h1 h2
  rw [re_ix h (by grind) (by grind)]; exact q4 n h1 h2
theorem QT_re {trm w w' : Nat → Int32} (h : RE w w') (q : QT trm w) : QT trm w' := by
  unfold QT at *
  rw [h 2437 (by decide), h 2438 (by decide), h 2439 (by decide), h 2440 (by decide), h 2441 (by decide)]
  refine ⟨fun n h1 h2 => ?_, q.2⟩
  rw [re_ix h (by grind) (by grind)]; exact q.1 n h1 h2
theorem RS_re {s : StT} {w w' : Nat → Int32} (h : RE w w') (q : RS s w) : RS s w' := by
  obtain ⟨a1, a2, a3, a4, a5, a6, a7, a8, a9, a10, a11, a12, a13, a14, a15⟩ := q
  have b := a1
  obtain ⟨d0, d1, d2, d3, d4, d5, d6, d7, d8, d9, d10, d11, d12, d13, d14, d15, d16, d17, d18, d19, d20, d21, d22, d23, d24, d25, d26⟩ := b
  exact ⟨QD_re h a1, QB_re h a2, QP_re d17 h a3, QK_re h a4, QL_re d23 h a5, a6, QO_re d26 h a7, a8, QH_re d26 h a9, QG_re d25 d26 h a10, a11, QI_re h a12, QT_re h a13, a14, a15⟩
