/-! ===== rows that agree on a stretch ===== -/
def AG (A B : Int32) (w w' : Nat → Int32) : Prop := ∀ i : Int32, A ≤ i → i < B → ix w' i = ix w i
theorem AG.rf {A B : Int32} {w : Nat → Int32} : AG A B w w := fun _ _ _ => rfl
theorem AG.tr {A B : Int32} {w w' w2 : Nat → Int32} (h : AG A B w w') (h2 : AG A B w' w2) : AG A B w w2 := fun i a b => (h2 i a b).trans (h i a b)
theorem AG.up {A B i v : Int32} {w w' : Nat → Int32} (h : AG A B w w') (hA : 0 ≤ A) (hi : 0 ≤ i) (ho : i < A ∨ B ≤ i) : AG A B w (upd w' i.toNatClampNeg v) := by
  intro j a b
  have : ix (upd w' i.toNatClampNeg v) j = ix w' j := upd_ne hi (by grind) (by grind)
  rw [this]; exact h j a b
theorem AG.sub {A B C D : Int32} {w w' : Nat → Int32} (h : AG A B w w') (h1 : A ≤ C) (h2 : D ≤ B) : AG C D w w' := fun i a b => h i (by grind) (by grind)
theorem QD_ag {tod prods lan pos rom gp plc lcn ocn : Int32} {w w' : Nat → Int32} (h : AG 0 8 w w') (q : QD tod prods lan pos rom gp plc lcn ocn w) : QD tod prods lan pos rom gp plc lcn ocn w' := by
  unfold QD at *
  rw [show w' 0 = w 0 from h 0 (by decide) (by decide), show w' 1 = w 1 from h 1 (by decide) (by decide), show w' 2 = w 2 from h 2 (by decide) (by decide), show w' 3 = w 3 from h 3 (by decide) (by decide), show w' 4 = w 4 from h 4 (by decide) (by decide), show w' 5 = w 5 from h 5 (by decide) (by decide), show w' 6 = w 6 from h 6 (by decide) (by decide), show w' 7 = w 7 from h 7 (by decide) (by decide)]
  exact q
theorem QB_ag {bks w w' : Nat → Int32} (h : AG 9 15 w w') (q : QB bks w) : QB bks w' := by
  intro n h1 h2
  rw [h _ (by grind) (by grind)]; exact q n h1 h2
theorem QP_ag {plc rom lcn : Int32} {plot ppc pmk w w' : Nat → Int32} (hc : plc ≤ 48) (h : AG 15 159 w w') (q : QP plc rom lcn plot ppc pmk w) : QP plc rom lcn plot ppc pmk w' := by
  intro n h1 h2
  rw [h (15 + n) (by grind) (by grind), h (63 + n) (by grind) (by grind), h (111 + n) (by grind) (by grind)]; exact q n h1 h2
theorem QK_ag {plc : Int32} {pkd : Int64} {w w' : Nat → Int32} (h : AG 159 207 w w') (q : QK plc pkd w) : QK plc pkd w' := by
  refine ⟨q.1, ?_⟩
  intro n h1 h2
  rw [h (159 + n) (by grind) (by grind)]; exact q.2 n h1 h2
theorem QL_ag {lcn prods : Int32} {lpr lla lco lst w w' : Nat → Int32} (hc : lcn ≤ 24) (h : AG 207 303 w w') (q : QL lcn prods lpr lla lco lst w) : QL lcn prods lpr lla lco lst w' := by
  intro n h1 h2
  rw [h (207 + n) (by grind) (by grind), h (231 + n) (by grind) (by grind), h (255 + n) (by grind) (by grind), h (279 + n) (by grind) (by grind)]; exact q n h1 h2
theorem QO_ag {ocn prods : Int32} {ocu opr oop odu oli w w' : Nat → Int32} (hc : ocn ≤ 40) (h : AG 303 503 w w') (q : QO ocn prods ocu opr oop odu oli w) : QO ocn prods ocu opr oop odu oli w' := by
  intro n h1 h2
  rw [h (303 + n) (by grind) (by grind), h (343 + n) (by grind) (by grind), h (383 + n) (by grind) (by grind), h (423 + n) (by grind) (by grind), h (463 + n) (by grind) (by grind)]; exact q n h1 h2
theorem QH_ag {ocn lcn : Int32} {oha w w' : Nat → Int32} (hc : ocn ≤ 40) (h : AG 503 1463 w w') (q : QH ocn lcn oha w) : QH ocn lcn oha w' := by
  intro n m h1 h2 h3 h4
  rw [h _ (by grind) (by grind)]; exact q n m h1 h2 h3 h4
theorem QG_ag {ocn gif : Int32} {oha ost w w' : Nat → Int32} (h0 : 0 ≤ ocn) (hc : ocn ≤ 40) (h8 : AG 8 9 w w') (h : AG 503 2423 w w') (q : QG ocn gif oha ost w) : QG ocn gif oha ost w' := by
  obtain ⟨q1, q2, q3, q4, q5⟩ := q
  refine ⟨by rw [show w' 8 = w 8 from h8 8 (by decide) (by decide)]; exact q1, q2, ?_, q4, ?_⟩
  · intro n m h1 h2 h3 h4
    rw [h _ (by grind) (by grind)]; exact q3 n m h1 h2 h3 h4
  · intro n m h1 h2 h3 h4
    rw [h _ (by grind) (by grind), h _ (by grind) (by grind)]; exact q5 n m h1 h2 h3 h4
theorem QI_ag {icnt : Int32} {itm w w' : Nat → Int32} (h : AG 2423 2432 w w') (q : QI icnt itm w) : QI icnt itm w' := by
  obtain ⟨q1, q2, q3, q4⟩ := q
  refine ⟨by rw [show w' 2423 = w 2423 from h 2423 (by decide) (by decide)]; exact q1, q2, q3, ?_⟩
  intro n h1 h2
  rw [h _ (by grind) (by grind)]; exact q4 n h1 h2
theorem QT_ag {trm w w' : Nat → Int32} (h : AG 2432 2442 w w') (q : QT trm w) : QT trm w' := by
  unfold QT at *
  rw [show w' 2437 = w 2437 from h 2437 (by decide) (by decide), show w' 2438 = w 2438 from h 2438 (by decide) (by decide), show w' 2439 = w 2439 from h 2439 (by decide) (by decide), show w' 2440 = w 2440 from h 2440 (by decide) (by decide), show w' 2441 = w 2441 from h 2441 (by decide) (by decide)]
  refine ⟨fun n h1 h2 => ?_, q.2⟩
  rw [h _ (by grind) (by grind)]; exact q.1 n h1 h2
