/-! ===== small methods in closed form ===== -/
theorem n_in (v a b : Int32) : f_Y8_in v a b = some (if a ≤ v ∧ v ≤ b then 1 else 0) := by
  unfold f_Y8_in; grind
theorem n_can {p : Prop} [Decidable p] (k c : Int32) : f_Y8_can (if p then 1 else 0) k c = some (if p then (1, 0) else (0, k)) := by
  by_cases h : p
  · simp only [if_pos h]; exact can_t
  · simp only [if_neg h]
    unfold f_Y8_can f_Y8_can_J10 gb; rfl
theorem n_range (v a b : Int32) : f_X7_needRange v a b = some (if a ≤ v ∧ v ≤ b then .ok () else .error "java/lang/IllegalArgumentException") := by
  unfold f_X7_needRange f_X7_needRange_J10; grind
theorem n_exL (v c : Int32) (hc : c ≤ 24) : f_X1_exists v c = some (if 0 ≤ v ∧ v < c then 1 else 0) := by
  unfold f_X1_exists; grind
theorem n_exP (v c : Int32) (hc : c ≤ 48) : f_X5_exists v c = some (if 0 ≤ v ∧ v < c then 1 else 0) := by
  unfold f_X5_exists; grind
theorem n_exO (v c : Int32) (hc : c ≤ 40) : f_X2_exists v c = some (if 0 ≤ v ∧ v < c then 1 else 0) := by
  unfold f_X2_exists; grind
theorem n_needLot (v c : Int32) (hc : c ≤ 24) : f_X7_needLot v c = some (if 0 ≤ v ∧ v < c then .ok () else .error "java/lang/IndexOutOfBoundsException") := by
  unfold f_X7_needLot; rw [n_exL v c hc]; simp only [bnd1, Option.bind_some]; grind
theorem n_needPlace (v c : Int32) (hc : c ≤ 48) : f_X7_needPlace v c = some (if 0 ≤ v ∧ v < c then .ok () else .error "java/lang/IndexOutOfBoundsException") := by
  unfold f_X7_needPlace; rw [n_exP v c hc]; simp only [bnd1, Option.bind_some]; grind
theorem n_needOrder (v c : Int32) (hc : c ≤ 40) : f_X7_needOrder v c = some (if 0 ≤ v ∧ v < c then .ok () else .error "java/lang/IndexOutOfBoundsException") := by
  unfold f_X7_needOrder; rw [n_exO v c hc]; simp only [bnd1, Option.bind_some]; grind
theorem n_needProduct (v c : Int32) : f_X7_needProduct v c = some (if 0 ≤ v ∧ v < c then .ok () else .error "java/lang/IndexOutOfBoundsException") := by
  unfold f_X7_needProduct f_X7_needProduct_J15; grind
theorem n_needState (v : Int32) : f_X7_needState v = some (if v = 0 then .error "java/lang/IllegalStateException" else .ok ()) := by
  unfold f_X7_needState; grind
theorem n_isLot (v : Int32) (w : Nat → Int32) (h1 : 0 ≤ w 6) (h2 : w 6 ≤ 24) : f_Y8_isLot v w = some (if 0 ≤ v ∧ v < w 6 then 1 else 0) := by
  unfold f_Y8_isLot
  rw [gd_2450 (by decide) (by decide), n_in]
  simp only [bnd1, Option.bind_some]
  rw [show ((6 : Int32).toNatClampNeg) = 6 from rfl, gb_ok (by grind)]
  grind
theorem n_isProduct (v : Int32) (w : Nat → Int32) (h1 : 0 ≤ w 5) (h2 : w 5 ≤ 24) : f_Y8_isProduct v w = some (if 0 ≤ v ∧ v < w 5 then 1 else 0) := by
  unfold f_Y8_isProduct
  rw [gd_2450 (by decide) (by decide), n_in]
  simp only [bnd1, Option.bind_some]
  rw [show ((5 : Int32).toNatClampNeg) = 5 from rfl, gb_ok (by grind)]
  grind
theorem n_isOrder (v : Int32) (w : Nat → Int32) (h1 : 0 ≤ w 7) (h2 : w 7 ≤ 40) : f_Y8_isOrder v w = some (if 0 ≤ v ∧ v < w 7 then 1 else 0) := by
  unfold f_Y8_isOrder
  rw [gd_2450 (by decide) (by decide), n_in]
  simp only [bnd1, Option.bind_some]
  rw [show ((7 : Int32).toNatClampNeg) = 7 from rfl, gb_ok (by grind)]
  grind
theorem n_places (w : Nat → Int32) : f_Y8_places w = some (w 1 * w 2) := by
  unfold f_Y8_places
  rw [gd_2450 (by decide) (by decide), gd_2450 (by decide) (by decide)]; rfl
theorem n_isPlace (v : Int32) (w : Nat → Int32) (h1 : 0 ≤ w 1 * w 2) (h2 : w 1 * w 2 ≤ 48) : f_Y8_isPlace v w = some (if 0 ≤ v ∧ v < w 1 * w 2 then 1 else 0) := by
  unfold f_Y8_isPlace
  rw [n_places]
  simp only [bnd1, Option.bind_some]
  rw [n_in]
  simp only [Option.bind_some]
  generalize w 1 * w 2 = P at *
  rw [gb_ok (by grind)]
  grind
theorem n_isFree (n : Int32) (w : Nat → Int32) (h1 : 0 ≤ n) (h2 : n < 48) : f_Y8_isFree n w = some (if ix w (63 + n) = 0 then 1 else 0) := by
  unfold f_Y8_isFree
  rw [gd_2450 (by grind) (by grind)]
  grind
theorem n_has (o l : Int32) (w : Nat → Int32) (h1 : 0 ≤ o) (h2 : o < 40) (h3 : 0 ≤ l) (h4 : l < 24) : f_Y8_has o l w = some (ix w (503 + 24 * o + l)) := by
  unfold f_Y8_has
  rw [gd_2450 (by grind) (by grind)]
theorem n_piecesOf (o l c : Int32) (had : Nat → Int32) (hc : c ≤ 40) (h1 : 0 ≤ o) (h2 : o < c) (h3 : 0 ≤ l) (h4 : l < 24) : f_X2_piecesOf o l c had = some (ix had (o * 24 + l)) := by
  unfold f_X2_piecesOf f_X2_isCell
  rw [n_exO o c hc]
  have hp : 0 ≤ o ∧ o < c := ⟨h1, h2⟩
  simp only [bnd1, Option.bind_some, if_pos hp]
  rw [if_neg (by decide), if_neg (by grind), if_neg (by grind)]
  simp only [Option.bind_some]
  rw [if_neg (by decide), gd_960 (by grind) (by grind)]
theorem n_isWith (n l plc : Int32) (plot ppc : Nat → Int32) (hc : plc ≤ 48) (h1 : 0 ≤ n) (h2 : n < plc) : f_X5_isWith n l plc plot ppc = some (if 1 ≤ ix ppc n ∧ ix plot n = l then 1 else 0) := by
  unfold f_X5_isWith
  rw [n_exP n plc hc]
  have hp : 0 ≤ n ∧ n < plc := ⟨h1, h2⟩
  simp only [bnd1, Option.bind_some, if_pos hp]
  rw [if_neg (by decide), gd_48 (by grind) (by grind), gd_48 (by grind) (by grind)]
  grind
theorem n_isFree5 (n plc : Int32) (ppc : Nat → Int32) (hc : plc ≤ 48) (h1 : 0 ≤ n) (h2 : n < plc) : f_X5_isFree n plc ppc = some (if ix ppc n = 0 then 1 else 0) := by
  unfold f_X5_isFree
  rw [n_exP n plc hc]
  have hp : 0 ≤ n ∧ n < plc := ⟨h1, h2⟩
  simp only [bnd1, Option.bind_some, if_pos hp]
  rw [if_neg (by decide), gd_48 (by grind) (by grind)]
  grind
