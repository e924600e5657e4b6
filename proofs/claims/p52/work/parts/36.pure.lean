def f_X5_nearestFree_L2 (c_places : Int32) (c_pieces : Nat → Int32) (c_byDistance : Nat → Int32) (n1 : Int32) : Option ((Int32) ⊕ ((Int32) ⊕ Unit)) :=
  (if c_places ≤ n1 then some (.inr (.inr ()))
  else gd n1 48 (bnd1 (f_X5_isFree (c_byDistance n1.toNatClampNeg) c_places c_pieces) (fun r3 =>
  ((if r3 = 0 then some (.inl (n1 + 1))
  else some (.inr (.inl n1)))))))
def f_X5_nearestFree (c_places : Int32) (c_pieces : Nat → Int32) (c_byDistance : Nat → Int32) : Option (Int32) :=
  (bnd1 (loop (fun z => f_X5_nearestFree_L2 c_places c_pieces c_byDistance z) fu 0) fun e7 =>
  (sel (fun m8 => gd m8 48 (some (c_byDistance m8.toNatClampNeg))) (fun _ => some (-1))) e7)
def f_X0_daysOfYear (v0 : Int32) : Option (Int32) :=
  (if (v0 - v0 / 4 * 4) = 0 then some 366
  else some 365)
def f_X0_daysOfMonth_J31 (n1 : Int32) : Option (Int32) :=
  gd (n1 - 1) 12 (some (mdays (n1 - 1).toNatClampNeg))
def f_X0_daysOfMonth (v0 : Int32) (v1 : Int32) : Option (Int32) :=
  (if v1 < 1 then some 0
  else (if v1 ≤ 12 then (if v1 = 2 then (if (v0 - v0 / 4 * 4) = 0 then some 29
  else f_X0_daysOfMonth_J31 v1)
  else f_X0_daysOfMonth_J31 v1)
  else some 0))
def f_X0_numberOf_L9 (n0 : Int32) (n1 : Int32) (n3 : Int32) (n4 : Int32) : Option ((Int32 × Int32) ⊕ Int32) :=
  (if n0 ≤ n4 then some (.inr n3)
  else bnd1 (f_X0_daysOfYear n4) (fun r2 =>
  (some (.inl (n3 + r2, n4 + 1)))))
def f_X0_numberOf_L32 (n0 : Int32) (n1 : Int32) (n3 : Int32) (n4 : Int32) : Option ((Int32 × Int32) ⊕ Int32) :=
  (if n1 ≤ n4 then some (.inr n3)
  else bnd1 (f_X0_daysOfMonth n0 n4) (fun r7 =>
  (some (.inl (n3 + r7, n4 + 1)))))
def f_X0_numberOf (v0 : Int32) (v1 : Int32) (v2 : Int32) : Option (Int32) :=
  (bnd1 (loop (fun z => f_X0_numberOf_L9 v0 v1 z.1 z.2) fu (v2 - 1, 2024)) fun m5 =>
  (bnd1 (loop (fun z => f_X0_numberOf_L32 v0 v1 z.1 z.2) fu (m5, 1)) fun m10 =>
  some m10))
def f_X0_dateAt_L6 (n1 : Int32) (n2 : Int32) : Option ((Int32 × Int32) ⊕ (Int32 × Int32)) :=
  (if 2030 ≤ n2 then some (.inr (n1, n2))
  else bnd1 (f_X0_daysOfYear n2) (fun r2 =>
  ((if n1 < r2 then some (.inr (n1, n2))
  else bnd1 (f_X0_daysOfYear n2) (fun r5 =>
  (some (.inl (n1 - r5, n2 + 1))))))))
def f_X0_dateAt_L36 (n2 : Int32) (n1 : Int32) (n3 : Int32) : Option ((Int32 × Int32) ⊕ (Int32 × Int32)) :=
  (if 12 ≤ n3 then some (.inr (n1, n3))
  else bnd1 (f_X0_daysOfMonth n2 n3) (fun r11 =>
  ((if n1 < r11 then some (.inr (n1, n3))
  else bnd1 (f_X0_daysOfMonth n2 n3) (fun r14 =>
  (some (.inl (n1 - r14, n3 + 1))))))))
def f_X0_dateAt (v0 : Int32) : Option (Int32) :=
  (bnd2 (loop (fun z => f_X0_dateAt_L6 z.1 z.2) fu (v0, 2024)) fun m8 m9 =>
  (bnd2 (loop (fun z => f_X0_dateAt_L36 m9 z.1 z.2) fu (m8, 1)) fun m17 m18 =>
  some ((((m9 * 10000) + (m18 * 100)) + m17) + 1)))
def f_X7_today (c_now_today : Int32) : Option (Int32) :=
  some c_now_today
def f_X7_dayOf (v1 : Int32) (v2 : Int32) (v3 : Int32) : Option ((Except String Int32)) :=
  bnd1 (f_X7_needRange v1 2024 2030) (fun r1 => mx r1 (fun E3 => some (.error E3)) (fun _ =>
  (bnd1 (f_X0_daysOfMonth v1 v2) (fun r4 =>
  (bnd1 (f_X7_needRange v3 1 r4) (fun r6 => mx r6 (fun E8 => some (.error E8)) (fun _ =>
  (bnd1 (f_X0_numberOf v1 v2 v3) (fun r9 =>
  (some (.ok r9)))))))))))
def f_X7_dateOf (v1 : Int32) : Option ((Except String Int32)) :=
  bnd1 (f_X7_needRange v1 0 2556) (fun r1 => mx r1 (fun E3 => some (.error E3)) (fun _ =>
  (bnd1 (f_X0_dateAt v1) (fun r4 =>
  (some (.ok r4))))))
def f_X7_lotCount (c_now_lots_count : Int32) : Option (Int32) :=
  some c_now_lots_count
def f_X7_stockCost_L24_J82 (n1 : Int32) (n2 : Int64) (n4 : Int32) (c_now_products : Int32) (c_now_shelves_places : Int32) (c_now_shelves_lot : Nat → Int32) (c_now_shelves_pieces : Nat → Int32) (c_now_lots_count : Int32) (c_now_lots_product : Nat → Int32) (c_now_lots_cost : Nat → Int32) (c_rest : Nat → Int32) : Option ((Int64 × Int32) ⊕ Int64) :=
  some (.inl (n2, n4 + 1))
def f_X7_stockCost_L24 (n1 : Int32) (c_now_products : Int32) (c_now_shelves_places : Int32) (c_now_shelves_lot : Nat → Int32) (c_now_shelves_pieces : Nat → Int32) (c_now_lots_count : Int32) (c_now_lots_product : Nat → Int32) (c_now_lots_cost : Nat → Int32) (c_rest : Nat → Int32) (n2 : Int64) (n4 : Int32) : Option ((Int64 × Int32) ⊕ Int64) :=
  (if c_now_lots_count ≤ n4 then some (.inr n2)
  else gd n4 24 ((if (c_now_lots_product n4.toNatClampNeg) = n1 then gd n4 24 (gd n4 24 (f_X7_stockCost_L24_J82 n1 (n2 + (((c_now_lots_cost n4.toNatClampNeg).toInt64) * ((c_rest n4.toNatClampNeg).toInt64))) n4 c_now_products c_now_shelves_places c_now_shelves_lot c_now_shelves_pieces c_now_lots_count c_now_lots_product c_now_lots_cost c_rest))
  else f_X7_stockCost_L24_J82 n1 n2 n4 c_now_products c_now_shelves_places c_now_shelves_lot c_now_shelves_pieces c_now_lots_count c_now_lots_product c_now_lots_cost c_rest)))
def f_X7_stockCost (v1 : Int32) (c_now_products : Int32) (c_now_shelves_places : Int32) (c_now_shelves_lot : Nat → Int32) (c_now_shelves_pieces : Nat → Int32) (c_now_lots_count : Int32) (c_now_lots_product : Nat → Int32) (c_now_lots_cost : Nat → Int32) (c_rest : Nat → Int32) : Option ((Except String Int64) × (Nat → Int32)) :=
  bnd1 (f_X7_needProduct v1 c_now_products) (fun r1 => mx r1 (fun E3 => some (.error E3, c_rest)) (fun _ =>
  (bnd1 (f_X5_countLots c_now_shelves_places c_now_shelves_lot c_now_shelves_pieces c_rest) (fun o6 =>
  ((bnd1 (loop (fun z => f_X7_stockCost_L24 v1 c_now_products c_now_shelves_places c_now_shelves_lot c_now_shelves_pieces c_now_lots_count c_now_lots_product c_now_lots_cost o6 z.1 z.2) fu (0, 0)) fun m13 =>
  some (.ok m13, o6)))))))
def f_X7_placeCount (c_now_shelves_places : Int32) : Option (Int32) :=
  some c_now_shelves_places
def f_X7_firstFree (c_now_shelves_places : Int32) (c_now_shelves_pieces : Nat → Int32) (c_now_shelves_byDistance : Nat → Int32) : Option ((Except String Int32)) :=
  bnd1 (f_X5_nearestFree c_now_shelves_places c_now_shelves_pieces c_now_shelves_byDistance) (fun r1 =>
  ((if r1 = (-1) then some (.error "java/util/NoSuchElementException")
  else some (.ok r1))))
def f_X7_orderCount (c_now_orders_count : Int32) : Option (Int32) :=
  some c_now_orders_count
def f_X7_actCount (c_acts : Int32) : Option (Int32) :=
  some c_acts
def f_Y8_thrown (c_raised : Int32) : Option (Int32) :=
  some c_raised
def f_Y8_can_J10 (n1 : Int32) (t1 : Int32) (c_raised : Int32) : Option (Int32 × Int32) :=
  gb n1 (some (n1, t1))
def f_Y8_can (v1 : Int32) (v2 : Int32) (c_raised : Int32) : Option (Int32 × Int32) :=
  (if v1 = 0 then f_Y8_can_J10 v1 v2 c_raised
  else f_Y8_can_J10 v1 0 c_raised)
def f_Y8_in (v0 : Int32) (v1 : Int32) (v2 : Int32) : Option (Int32) :=
  (if v0 < v1 then some 0
  else (if v2 < v0 then some 0
  else some 1))
def f_Y8_places (c_w : Nat → Int32) : Option (Int32) :=
  gd 1 2450 (gd 2 2450 (some ((c_w (1 : Int32).toNatClampNeg) * (c_w (2 : Int32).toNatClampNeg))))
def f_Y8_laneOf (v1 : Int32) (c_w : Nat → Int32) : Option (Int32) :=
  gd 2 2450 (gz (c_w (2 : Int32).toNatClampNeg) (some (v1 / (c_w (2 : Int32).toNatClampNeg))))
def f_Y8_positionOf (v1 : Int32) (c_w : Nat → Int32) : Option (Int32) :=
  gd 2 2450 (gz (c_w (2 : Int32).toNatClampNeg) (some ((v1 - v1 / (c_w (2 : Int32).toNatClampNeg) * (c_w (2 : Int32).toNatClampNeg)) + 1)))
def f_Y8_distanceOf (v1 : Int32) (c_w : Nat → Int32) : Option (Int32) :=
  gd 4 2450 (bnd1 (f_Y8_laneOf v1 c_w) (fun r2 =>
  (bnd1 (f_Y8_positionOf v1 c_w) (fun r4 =>
  (some (((c_w (4 : Int32).toNatClampNeg) * r2) + r4))))))
def f_Y8_laysPlaces_L12 (n1 : Int32) (c_w : Nat → Int32) (n2 : Int32) (c_near : Nat → Int32) : Option ((Int32 × (Nat → Int32)) ⊕ (Int32 × (Nat → Int32))) :=
  (if n2 ≤ 0 then some (.inr (n2, c_near))
  else gd (n2 - 1) 48 (bnd1 (f_Y8_distanceOf (c_near (n2 - 1).toNatClampNeg) c_w) (fun r6 =>
  (bnd1 (f_Y8_distanceOf n1 c_w) (fun r8 =>
  ((if r6 ≤ r8 then some (.inr (n2, c_near))
  else gd (n2 - 1) 48 (gd n2 48 (some (.inl (n2 + (-1), upd c_near n2.toNatClampNeg (c_near (n2 - 1).toNatClampNeg))))))))))))
def f_Y8_laysPlaces_L2 (c_w : Nat → Int32) (n1 : Int32) (c_near : Nat → Int32) : Option ((Int32 × (Nat → Int32)) ⊕ (Nat → Int32)) :=
  bnd1 (f_Y8_places c_w) (fun r1 =>
  ((if r1 ≤ n1 then some (.inr c_near)
  else (bnd2 (loop (fun z => f_Y8_laysPlaces_L12 n1 c_w z.1 z.2) fu (n1, c_near)) fun m14 c15 =>
  gd m14 48 (some (.inl (n1 + 1, upd c15 m14.toNatClampNeg n1)))))))
def f_Y8_laysPlaces (c_w : Nat → Int32) (c_near : Nat → Int32) : Option ((Nat → Int32)) :=
  (bnd1 (loop (fun z => f_Y8_laysPlaces_L2 c_w z.1 z.2) fu (0, c_near)) fun c18 =>
  some c18)
def f_Y8_begins_L3 (n1 : Int32) (n2 : Int32) (n3 : Int32) (n4 : Int32) (c_near : Nat → Int32) (n5 : Int32) (c_w : Nat → Int32) : Option ((Int32 × (Nat → Int32)) ⊕ (Nat → Int32)) :=
  (if 2423 ≤ n5 then some (.inr c_w)
  else gd n5 2450 (some (.inl (n5 + 1, upd c_w n5.toNatClampNeg 0))))
def f_Y8_begins_L57 (c_near : Nat → Int32) (n5 : Int32) (c_w : Nat → Int32) : Option ((Int32 × (Nat → Int32)) ⊕ (Nat → Int32)) :=
  (if 48 ≤ n5 then some (.inr c_w)
  else gd (15 + n5) 2450 (some (.inl (n5 + 1, upd c_w (15 + n5).toNatClampNeg (-1)))))
def f_Y8_begins (v1 : Int32) (v2 : Int32) (v3 : Int32) (v4 : Int32) (c_w : Nat → Int32) (c_near : Nat → Int32) : Option ((Nat → Int32) × (Nat → Int32)) :=
  (bnd1 (loop (fun z => f_Y8_begins_L3 v1 v2 v3 v4 c_near z.1 z.2) fu (0, c_w)) fun c4 =>
  gd 1 2450 (gd 2 2450 (gd 3 2450 (gd 4 2450 ((bnd1 (loop (fun z => f_Y8_begins_L57 c_near z.1 z.2) fu (0, upd (upd (upd (upd c4 (1 : Int32).toNatClampNeg v1) (2 : Int32).toNatClampNeg v2) (3 : Int32).toNatClampNeg v3) (4 : Int32).toNatClampNeg v4)) fun c12 =>
  bnd1 (f_Y8_laysPlaces c12 c_near) (fun o15 =>
  (some (c12, o15)))))))))
def f_Y8_costs (v1 : Int32) (v2 : Int32) (v3 : Int32) (v4 : Int32) (v5 : Int32) (c_w : Nat → Int32) : Option ((Nat → Int32)) :=
  gd 2437 2450 (gd 2438 2450 (gd 2439 2450 (gd 2440 2450 (gd 2441 2450 (some (upd (upd (upd (upd (upd c_w (2437 : Int32).toNatClampNeg v1) (2438 : Int32).toNatClampNeg v2) (2439 : Int32).toNatClampNeg v3) (2440 : Int32).toNatClampNeg v4) (2441 : Int32).toNatClampNeg v5))))))
def f_Y8_isPlace (v1 : Int32) (c_w : Nat → Int32) : Option (Int32) :=
  bnd1 (f_Y8_places c_w) (fun r1 =>
  (bnd1 (f_Y8_in v1 0 (r1 - 1)) (fun r3 =>
  (gb r3 (some r3)))))
def f_Y8_isFree (v1 : Int32) (c_w : Nat → Int32) : Option (Int32) :=
  gd (63 + v1) 2450 ((if (c_w (63 + v1).toNatClampNeg) = 0 then some 1
  else some 0))
def f_Y8_isLot (v1 : Int32) (c_w : Nat → Int32) : Option (Int32) :=
  gd 6 2450 (bnd1 (f_Y8_in v1 0 ((c_w (6 : Int32).toNatClampNeg) - 1)) (fun r2 =>
  (gb r2 (some r2))))
def f_Y8_isProduct (v1 : Int32) (c_w : Nat → Int32) : Option (Int32) :=
  gd 5 2450 (bnd1 (f_Y8_in v1 0 ((c_w (5 : Int32).toNatClampNeg) - 1)) (fun r2 =>
  (gb r2 (some r2))))
def f_Y8_isOrder (v1 : Int32) (c_w : Nat → Int32) : Option (Int32) :=
  gd 7 2450 (bnd1 (f_Y8_in v1 0 ((c_w (7 : Int32).toNatClampNeg) - 1)) (fun r2 =>
  (gb r2 (some r2))))
def f_Y8_keptAt (c_undos : Int32) (c_eldest : Int32) : Option (Int32) :=
  some (2442 * ((c_eldest + c_undos) - (c_eldest + c_undos) / 8 * 8))
def f_Y8_keepsFrom_o_w_L39 (n2 : Int32) (c_undos : Int32) (c_eldest : Int32) (c_w : Nat → Int32) (n3 : Int32) (c_kept : Nat → Int32) : Option ((Int32 × (Nat → Int32)) ⊕ (Nat → Int32)) :=
  (if 2442 ≤ n3 then some (.inr c_kept)
  else gd n3 2450 (gd (n2 + n3) 19600 (some (.inl (n3 + 1, upd c_kept (n2 + n3).toNatClampNeg (c_w n3.toNatClampNeg))))))
def f_Y8_keepsFrom_o_w_J32 (c_undos : Int32) (c_eldest : Int32) (c_w : Nat → Int32) (c_kept : Nat → Int32) : Option (Int32 × Int32 × (Nat → Int32)) :=
  bnd1 (f_Y8_keptAt c_undos c_eldest) (fun r2 =>
  ((bnd1 (loop (fun z => f_Y8_keepsFrom_o_w_L39 r2 c_undos c_eldest c_w z.1 z.2) fu (0, c_kept)) fun c8 =>
  some (c_undos + 1, c_eldest, c8))))
def f_Y8_keepsFrom_o_w (c_undos : Int32) (c_eldest : Int32) (c_w : Nat → Int32) (c_kept : Nat → Int32) : Option (Int32 × Int32 × (Nat → Int32)) :=
  (if c_undos = 8 then f_Y8_keepsFrom_o_w_J32 (c_undos - 1) ((c_eldest + 1) - (c_eldest + 1) / 8 * 8) c_w c_kept
  else f_Y8_keepsFrom_o_w_J32 c_undos c_eldest c_w c_kept)
def f_Y8_keep (c_undos : Int32) (c_eldest : Int32) (c_w : Nat → Int32) (c_kept : Nat → Int32) : Option (Int32 × Int32 × (Nat → Int32)) :=
  bnd3 (f_Y8_keepsFrom_o_w c_undos c_eldest c_w c_kept) (fun o3 o4 o5 =>
  (some (o3, o4, o5)))
def f_Y8_copies_L2 (c_w : Nat → Int32) (n1 : Int32) (c_copy : Nat → Int32) : Option ((Int32 × (Nat → Int32)) ⊕ (Nat → Int32)) :=
  (if 2442 ≤ n1 then some (.inr c_copy)
  else gd n1 2450 (gd n1 2450 (some (.inl (n1 + 1, upd c_copy n1.toNatClampNeg (c_w n1.toNatClampNeg))))))
def f_Y8_copies (c_w : Nat → Int32) (c_copy : Nat → Int32) : Option ((Nat → Int32)) :=
  (bnd1 (loop (fun z => f_Y8_copies_L2 c_w z.1 z.2) fu (0, c_copy)) fun c5 =>
  some c5)
def f_Y8_returns_L2 (c_copy : Nat → Int32) (n1 : Int32) (c_w : Nat → Int32) : Option ((Int32 × (Nat → Int32)) ⊕ (Nat → Int32)) :=
  (if 2442 ≤ n1 then some (.inr c_w)
  else gd n1 2450 (gd n1 2450 (some (.inl (n1 + 1, upd c_w n1.toNatClampNeg (c_copy n1.toNatClampNeg))))))
def f_Y8_returns (c_w : Nat → Int32) (c_copy : Nat → Int32) : Option ((Nat → Int32)) :=
  (bnd1 (loop (fun z => f_Y8_returns_L2 c_copy z.1 z.2) fu (0, c_w)) fun c5 =>
  some c5)
def f_Y8_undo_L39 (n1 : Int32) (c_raised : Int32) (c_undos : Int32) (c_eldest : Int32) (c_kept : Nat → Int32) (c_near : Nat → Int32) (n2 : Int32) (c_w : Nat → Int32) : Option ((Int32 × (Nat → Int32)) ⊕ (Nat → Int32)) :=
  (if 2442 ≤ n2 then some (.inr c_w)
  else gd (n1 + n2) 19600 (gd n2 2450 (some (.inl (n2 + 1, upd c_w n2.toNatClampNeg (c_kept (n1 + n2).toNatClampNeg))))))
def f_Y8_undo_J13 (t1 : Int32) (c_raised : Int32) (c_undos : Int32) (c_eldest : Int32) (c_w : Nat → Int32) (c_kept : Nat → Int32) (c_near : Nat → Int32) : Option (Int32 × Int32 × Int32 × (Nat → Int32) × (Nat → Int32)) :=
  bnd2 (f_Y8_can t1 1 c_raised) (fun r2 o4 =>
  ((if r2 = 0 then some (0, o4, c_undos, c_w, c_near)
  else bnd1 (f_Y8_keptAt (c_undos - 1) c_eldest) (fun r6 =>
  ((bnd1 (loop (fun z => f_Y8_undo_L39 r6 o4 (c_undos - 1) c_eldest c_kept c_near z.1 z.2) fu (0, c_w)) fun c12 =>
  bnd1 (f_Y8_laysPlaces c12 c_near) (fun o15 =>
  (some (c_undos - 1, o4, c_undos - 1, c12, o15)))))))))
def f_Y8_undo (c_raised : Int32) (c_undos : Int32) (c_eldest : Int32) (c_w : Nat → Int32) (c_kept : Nat → Int32) (c_near : Nat → Int32) : Option (Int32 × Int32 × Int32 × (Nat → Int32) × (Nat → Int32)) :=
  (if c_undos ≤ 0 then f_Y8_undo_J13 0 c_raised c_undos c_eldest c_w c_kept c_near
  else f_Y8_undo_J13 1 c_raised c_undos c_eldest c_w c_kept c_near)
def f_Y8_actCount (c_raised : Int32) (c_undos : Int32) : Option (Int32 × Int32) :=
  some (c_undos, 0)
def f_Y8_newHouse_J46 (n1 : Int32) (n2 : Int32) (n3 : Int32) (n4 : Int32) (t1 : Int32) (c_raised : Int32) (c_undos : Int32) (c_eldest : Int32) (c_w : Nat → Int32) (c_kept : Nat → Int32) (c_near : Nat → Int32) : Option (Int32 × Int32 × Int32 × Int32 × (Nat → Int32) × (Nat → Int32) × (Nat → Int32)) :=
  bnd2 (f_Y8_can t1 1 c_raised) (fun r4 o6 =>
  ((if r4 = 0 then some (0, o6, c_undos, c_eldest, c_w, c_kept, c_near)
  else bnd3 (f_Y8_keep c_undos c_eldest c_w c_kept) (fun o10 o11 o12 =>
  (bnd2 (f_Y8_begins n1 n2 n3 n4 c_w c_near) (fun o15 o16 =>
  (bnd1 (f_Y8_places o15) (fun r17 =>
  (some (r17, o6, o10, o11, o15, o12, o16))))))))))
def f_Y8_newHouse_J45 (n1 : Int32) (n2 : Int32) (n3 : Int32) (n4 : Int32) (c_raised : Int32) (c_undos : Int32) (c_eldest : Int32) (c_w : Nat → Int32) (c_kept : Nat → Int32) (c_near : Nat → Int32) : Option (Int32 × Int32 × Int32 × Int32 × (Nat → Int32) × (Nat → Int32) × (Nat → Int32)) :=
  f_Y8_newHouse_J46 n1 n2 n3 n4 0 c_raised c_undos c_eldest c_w c_kept c_near
def f_Y8_newHouse (v1 : Int32) (v2 : Int32) (v3 : Int32) (v4 : Int32) (c_raised : Int32) (c_undos : Int32) (c_eldest : Int32) (c_w : Nat → Int32) (c_kept : Nat → Int32) (c_near : Nat → Int32) : Option (Int32 × Int32 × Int32 × Int32 × (Nat → Int32) × (Nat → Int32) × (Nat → Int32)) :=
  bnd1 (f_Y8_in v1 1 6) (fun r1 =>
  ((if r1 = 0 then f_Y8_newHouse_J45 v1 v2 v3 v4 c_raised c_undos c_eldest c_w c_kept c_near
  else bnd1 (f_Y8_in v2 1 8) (fun r19 =>
  ((if r19 = 0 then f_Y8_newHouse_J45 v1 v2 v3 v4 c_raised c_undos c_eldest c_w c_kept c_near
  else bnd1 (f_Y8_in v3 1 20) (fun r22 =>
  ((if r22 = 0 then f_Y8_newHouse_J45 v1 v2 v3 v4 c_raised c_undos c_eldest c_w c_kept c_near
  else bnd1 (f_Y8_in v4 1 5) (fun r25 =>
  ((if r25 = 0 then f_Y8_newHouse_J45 v1 v2 v3 v4 c_raised c_undos c_eldest c_w c_kept c_near
  else f_Y8_newHouse_J46 v1 v2 v3 v4 1 c_raised c_undos c_eldest c_w c_kept c_near))))))))))))
def f_Y8_takes_J42 (t1 : Int32) (t2 : Int32) (c_w : Nat → Int32) : Option ((Nat → Int32)) :=
  gd t1 2450 (some (upd c_w t1.toNatClampNeg t2))
def f_Y8_takes (v1 : Int32) (v2 : Int32) (c_w : Nat → Int32) : Option ((Nat → Int32)) :=
  gd (63 + v1) 2450 (gd (63 + v1) 2450 (bnd1 (f_Y8_isFree v1 (upd c_w (63 + v1).toNatClampNeg ((c_w (63 + v1).toNatClampNeg) - v2))) (fun r3 =>
  ((if r3 = 0 then gd (15 + v1) 2450 (f_Y8_takes_J42 (15 + v1) ((upd c_w (63 + v1).toNatClampNeg ((c_w (63 + v1).toNatClampNeg) - v2)) (15 + v1).toNatClampNeg) (upd c_w (63 + v1).toNatClampNeg ((c_w (63 + v1).toNatClampNeg) - v2)))
  else f_Y8_takes_J42 (15 + v1) (-1) (upd c_w (63 + v1).toNatClampNeg ((c_w (63 + v1).toNatClampNeg) - v2)))))))
def f_Y8_scraps (v1 : Int32) (v2 : Int32) (c_w : Nat → Int32) : Option ((Nat → Int32)) :=
  bnd1 (f_Y8_takes v1 v2 c_w) (fun o3 =>
  (gd (111 + v1) 2450 (gd 12 2450 (gd 12 2450 (some (upd (upd o3 (111 + v1).toNatClampNeg 5) (12 : Int32).toNatClampNeg (((upd o3 (111 + v1).toNatClampNeg 5) (12 : Int32).toNatClampNeg) + v2)))))))
def f_Y8_passDays_L77_J139 (n1 : Int32) (n2 : Int32) (n3 : Int32) (n4 : Int32) (c_raised : Int32) (c_undos : Int32) (c_eldest : Int32) (c_w : Nat → Int32) (c_kept : Nat → Int32) : Option ((Int32 × (Nat → Int32)) ⊕ (Nat → Int32)) :=
  some (.inl (n4 + 1, c_w))
def f_Y8_passDays_L77 (n1 : Int32) (n2 : Int32) (n3 : Int32) (c_raised : Int32) (c_undos : Int32) (c_eldest : Int32) (c_kept : Nat → Int32) (n4 : Int32) (c_w : Nat → Int32) : Option ((Int32 × (Nat → Int32)) ⊕ (Nat → Int32)) :=
  bnd1 (f_Y8_places c_w) (fun r22 =>
  ((if r22 ≤ n4 then some (.inr c_w)
  else bnd1 (f_Y8_isFree n4 c_w) (fun r25 =>
  ((if r25 = 0 then gd (15 + n4) 2450 (gd (231 + (c_w (15 + n4).toNatClampNeg)) 2450 (gd 0 2450 ((if (c_w (0 : Int32).toNatClampNeg) ≤ (c_w (231 + (c_w (15 + n4).toNatClampNeg)).toNatClampNeg) then f_Y8_passDays_L77_J139 n1 n2 n3 n4 c_raised c_undos c_eldest c_w c_kept
  else gd (63 + n4) 2450 (bnd1 (f_Y8_scraps n4 (c_w (63 + n4).toNatClampNeg) c_w) (fun o35 =>
  (f_Y8_passDays_L77_J139 n1 n2 n3 n4 c_raised c_undos c_eldest o35 c_kept)))))))
  else f_Y8_passDays_L77_J139 n1 n2 n3 n4 c_raised c_undos c_eldest c_w c_kept))))))
def f_Y8_passDays_L59 (n1 : Int32) (n2 : Int32) (c_raised : Int32) (c_undos : Int32) (c_eldest : Int32) (c_kept : Nat → Int32) (n3 : Int32) (c_w : Nat → Int32) : Option ((Int32 × (Nat → Int32)) ⊕ (Nat → Int32)) :=
  (if n1 ≤ n3 then some (.inr c_w)
  else gd 0 2450 (gd 0 2450 ((bnd1 (loop (fun z => f_Y8_passDays_L77 n1 n2 n3 c_raised c_undos c_eldest c_kept z.1 z.2) fu (0, upd c_w (0 : Int32).toNatClampNeg ((c_w (0 : Int32).toNatClampNeg) + 1))) fun c37 =>
  some (.inl (n3 + 1, c37))))))
def f_Y8_passDays_J36 (n1 : Int32) (t1 : Int32) (c_raised : Int32) (c_undos : Int32) (c_eldest : Int32) (c_w : Nat → Int32) (c_kept : Nat → Int32) : Option (Int32 × Int32 × Int32 × Int32 × (Nat → Int32) × (Nat → Int32)) :=
  bnd2 (f_Y8_can t1 2 c_raised) (fun r9 o11 =>
  ((if r9 = 0 then some (0, o11, c_undos, c_eldest, c_w, c_kept)
  else bnd3 (f_Y8_keep c_undos c_eldest c_w c_kept) (fun o15 o16 o17 =>
  (gd 12 2450 ((bnd1 (loop (fun z => f_Y8_passDays_L59 n1 (c_w (12 : Int32).toNatClampNeg) o11 o15 o16 o17 z.1 z.2) fu (0, c_w)) fun c39 =>
  gd 12 2450 (some ((c39 (12 : Int32).toNatClampNeg) - (c_w (12 : Int32).toNatClampNeg), o11, o15, o16, c39, o17)))))))))
def f_Y8_passDays (v1 : Int32) (c_raised : Int32) (c_undos : Int32) (c_eldest : Int32) (c_w : Nat → Int32) (c_kept : Nat → Int32) : Option (Int32 × Int32 × Int32 × Int32 × (Nat → Int32) × (Nat → Int32)) :=
  bnd1 (f_Y8_in v1 1 400) (fun r1 =>
  (bnd2 (f_Y8_can r1 1 c_raised) (fun r3 o5 =>
  ((if r3 = 0 then some (0, o5, c_undos, c_eldest, c_w, c_kept)
  else gd 0 2450 ((if 2556 < ((c_w (0 : Int32).toNatClampNeg) + v1) then f_Y8_passDays_J36 v1 0 o5 c_undos c_eldest c_w c_kept
  else f_Y8_passDays_J36 v1 1 o5 c_undos c_eldest c_w c_kept)))))))
def f_Y8_today (c_raised : Int32) (c_w : Nat → Int32) : Option (Int32 × Int32) :=
  gd 0 2450 (some (c_w (0 : Int32).toNatClampNeg, 0))
def f_Y8_daysOfYear (v0 : Int32) : Option (Int32) :=
  (if (v0 - v0 / 4 * 4) = 0 then some 366
  else some 365)
def f_Y8_daysOfMonth_J39 : Option (Int32) :=
  some 30
def f_Y8_daysOfMonth (v0 : Int32) (v1 : Int32) : Option (Int32) :=
  (if v1 = 2 then bnd1 (f_Y8_daysOfYear v0) (fun r6 =>
  (some (r6 - 337)))
  else (if v1 = 4 then f_Y8_daysOfMonth_J39
  else (if v1 = 6 then f_Y8_daysOfMonth_J39
  else (if v1 = 9 then f_Y8_daysOfMonth_J39
  else (if v1 = 11 then f_Y8_daysOfMonth_J39
  else some 31)))))
def f_Y8_dayOf_L61 (n1 : Int32) (n2 : Int32) (c_raised : Int32) (n4 : Int32) (n5 : Int32) : Option ((Int32 × Int32) ⊕ Int32) :=
  (if n1 ≤ n5 then some (.inr n4)
  else bnd1 (f_Y8_daysOfYear n5) (fun r9 =>
  (some (.inl (n4 + r9, n5 + 1)))))
def f_Y8_dayOf_L86 (n1 : Int32) (n2 : Int32) (c_raised : Int32) (n4 : Int32) (n5 : Int32) : Option ((Int32 × Int32) ⊕ Int32) :=
  (if n2 ≤ n5 then some (.inr n4)
  else bnd1 (f_Y8_daysOfMonth n1 n5) (fun r14 =>
  (some (.inl (n4 + r14, n5 + 1)))))
def f_Y8_dayOf_J42 (n1 : Int32) (n2 : Int32) (n3 : Int32) (t1 : Int32) (c_raised : Int32) : Option (Int32 × Int32) :=
  bnd2 (f_Y8_can t1 1 c_raised) (fun r4 o6 =>
  ((if r4 = 0 then some (0, o6)
  else (bnd1 (loop (fun z => f_Y8_dayOf_L61 n1 n2 o6 z.1 z.2) fu (n3 - 1, 2024)) fun m12 =>
  (bnd1 (loop (fun z => f_Y8_dayOf_L86 n1 n2 o6 z.1 z.2) fu (m12, 1)) fun m17 =>
  some (m17, o6))))))
def f_Y8_dayOf_J41 (n1 : Int32) (n2 : Int32) (n3 : Int32) (c_raised : Int32) : Option (Int32 × Int32) :=
  f_Y8_dayOf_J42 n1 n2 n3 0 c_raised
def f_Y8_dayOf (v1 : Int32) (v2 : Int32) (v3 : Int32) (c_raised : Int32) : Option (Int32 × Int32) :=
  bnd1 (f_Y8_in v1 2024 2030) (fun r1 =>
  ((if r1 = 0 then f_Y8_dayOf_J41 v1 v2 v3 c_raised
  else bnd1 (f_Y8_in v2 1 12) (fun r18 =>
  ((if r18 = 0 then f_Y8_dayOf_J41 v1 v2 v3 c_raised
  else bnd1 (f_Y8_daysOfMonth v1 v2) (fun r21 =>
  (bnd1 (f_Y8_in v3 1 r21) (fun r23 =>
  ((if r23 = 0 then f_Y8_dayOf_J41 v1 v2 v3 c_raised
  else f_Y8_dayOf_J42 v1 v2 v3 1 c_raised)))))))))))
def f_Y8_dateOf_L24 (c_raised : Int32) (n2 : Int32) (n3 : Int32) : Option ((Int32 × Int32) ⊕ (Int32 × Int32)) :=
  bnd1 (f_Y8_daysOfYear n3) (fun r7 =>
  ((if n2 < r7 then some (.inr (n2, n3))
  else bnd1 (f_Y8_daysOfYear n3) (fun r10 =>
  (some (.inl (n2 - r10, n3 + 1)))))))
def f_Y8_dateOf_L48 (n3 : Int32) (c_raised : Int32) (n2 : Int32) (n4 : Int32) : Option ((Int32 × Int32) ⊕ (Int32 × Int32)) :=
  bnd1 (f_Y8_daysOfMonth n3 n4) (fun r15 =>
  ((if n2 < r15 then some (.inr (n2, n4))
  else bnd1 (f_Y8_daysOfMonth n3 n4) (fun r18 =>
  (some (.inl (n2 - r18, n4 + 1)))))))
def f_Y8_dateOf (v1 : Int32) (c_raised : Int32) : Option (Int32 × Int32) :=
  bnd1 (f_Y8_in v1 0 2556) (fun r1 =>
  (bnd2 (f_Y8_can r1 1 c_raised) (fun r3 o5 =>
  ((if r3 = 0 then some (0, o5)
  else (bnd2 (loop (fun z => f_Y8_dateOf_L24 o5 z.1 z.2) fu (v1, 2024)) fun m13 m14 =>
  (bnd2 (loop (fun z => f_Y8_dateOf_L48 m14 o5 z.1 z.2) fu (m13, 1)) fun m21 m22 =>
  some ((((10000 * m14) + (100 * m22)) + m21) + 1, o5))))))))
def f_Y8_addProduct_J17 (t1 : Int32) (c_raised : Int32) (c_undos : Int32) (c_eldest : Int32) (c_w : Nat → Int32) (c_kept : Nat → Int32) : Option (Int32 × Int32 × Int32 × Int32 × (Nat → Int32) × (Nat → Int32)) :=
  bnd2 (f_Y8_can t1 1 c_raised) (fun r3 o5 =>
  ((if r3 = 0 then some (0, o5, c_undos, c_eldest, c_w, c_kept)
  else bnd3 (f_Y8_keep c_undos c_eldest c_w c_kept) (fun o9 o10 o11 =>
  (gd 5 2450 (gd 5 2450 (gd 5 2450 (some (((upd c_w (5 : Int32).toNatClampNeg ((c_w (5 : Int32).toNatClampNeg) + 1)) (5 : Int32).toNatClampNeg) - 1, o5, o9, o10, upd c_w (5 : Int32).toNatClampNeg ((c_w (5 : Int32).toNatClampNeg) + 1), o11)))))))))
def f_Y8_addProduct (c_raised : Int32) (c_undos : Int32) (c_eldest : Int32) (c_w : Nat → Int32) (c_kept : Nat → Int32) : Option (Int32 × Int32 × Int32 × Int32 × (Nat → Int32) × (Nat → Int32)) :=
  gd 5 2450 ((if 6 ≤ (c_w (5 : Int32).toNatClampNeg) then f_Y8_addProduct_J17 0 c_raised c_undos c_eldest c_w c_kept
  else f_Y8_addProduct_J17 1 c_raised c_undos c_eldest c_w c_kept))
def f_Y8_freeRoom_L4_J31 (n2 : Int32) (t0 : Int32) (t1 : Int32) (c_w : Nat → Int32) : Option ((Int32 × Int32) ⊕ Int32) :=
  some (.inl (t0 + t1, n2 + 1))
def f_Y8_freeRoom_L4 (c_w : Nat → Int32) (n1 : Int32) (n2 : Int32) : Option ((Int32 × Int32) ⊕ Int32) :=
  bnd1 (f_Y8_places c_w) (fun r1 =>
  ((if r1 ≤ n2 then some (.inr n1)
  else bnd1 (f_Y8_isFree n2 c_w) (fun r4 =>
  ((if r4 = 0 then f_Y8_freeRoom_L4_J31 n2 n1 0 c_w
  else gd 3 2450 (f_Y8_freeRoom_L4_J31 n2 n1 (c_w (3 : Int32).toNatClampNeg) c_w)))))))
def f_Y8_freeRoom (c_w : Nat → Int32) : Option (Int32) :=
  (bnd1 (loop (fun z => f_Y8_freeRoom_L4 c_w z.1 z.2) fu (0, 0)) fun m9 =>
  some m9)
def f_Y8_puts_L6_J153 (n1 : Int32) (n3 : Int32) (n4 : Int32) (n5 : Int32) (n6 : Int32) (c_w : Nat → Int32) (c_near : Nat → Int32) : Option ((Int32 × Int32 × (Nat → Int32)) ⊕ (Int32 × (Nat → Int32))) :=
  some (.inl (n5, n6 + 1, c_w))
def f_Y8_puts_L6_J106 (n1 : Int32) (n3 : Int32) (n4 : Int32) (n5 : Int32) (n6 : Int32) (n7 : Int32) (t0 : Int32) (c_w : Nat → Int32) (c_near : Nat → Int32) : Option ((Int32 × Int32 × (Nat → Int32)) ⊕ (Int32 × (Nat → Int32))) :=
  gd (15 + n7) 2450 (gd (63 + n7) 2450 (gd (63 + n7) 2450 (gd (111 + n7) 2450 (f_Y8_puts_L6_J153 n1 n3 n4 (n5 - t0) n6 (upd (upd (upd c_w (15 + n7).toNatClampNeg n1) (63 + n7).toNatClampNeg (((upd c_w (15 + n7).toNatClampNeg n1) (63 + n7).toNatClampNeg) + t0)) (111 + n7).toNatClampNeg n4) c_near))))
def f_Y8_puts_L6_J56 (n1 : Int32) (n3 : Int32) (n4 : Int32) (n5 : Int32) (n6 : Int32) (n7 : Int32) (t0 : Int32) (c_w : Nat → Int32) (c_near : Nat → Int32) : Option ((Int32 × Int32 × (Nat → Int32)) ⊕ (Int32 × (Nat → Int32))) :=
  gd 3 2450 (gd (63 + n7) 2450 ((if t0 = 0 then f_Y8_puts_L6_J153 n1 n3 n4 n5 n6 c_w c_near
  else (if ((c_w (3 : Int32).toNatClampNeg) - (c_w (63 + n7).toNatClampNeg)) ≤ 0 then f_Y8_puts_L6_J153 n1 n3 n4 n5 n6 c_w c_near
  else (if n5 ≤ 0 then f_Y8_puts_L6_J153 n1 n3 n4 n5 n6 c_w c_near
  else (if ((c_w (3 : Int32).toNatClampNeg) - (c_w (63 + n7).toNatClampNeg)) ≤ n5 then f_Y8_puts_L6_J106 n1 n3 n4 n5 n6 n7 ((c_w (3 : Int32).toNatClampNeg) - (c_w (63 + n7).toNatClampNeg)) c_w c_near
  else f_Y8_puts_L6_J106 n1 n3 n4 n5 n6 n7 n5 c_w c_near))))))
def f_Y8_puts_L6 (n1 : Int32) (n3 : Int32) (n4 : Int32) (c_near : Nat → Int32) (n5 : Int32) (n6 : Int32) (c_w : Nat → Int32) : Option ((Int32 × Int32 × (Nat → Int32)) ⊕ (Int32 × (Nat → Int32))) :=
  bnd1 (f_Y8_places c_w) (fun r1 =>
  ((if r1 ≤ n6 then some (.inr (n5, c_w))
  else gd n6 48 ((if n3 = 0 then gd (15 + (c_near n6.toNatClampNeg)) 2450 ((if (c_w (15 + (c_near n6.toNatClampNeg)).toNatClampNeg) = n1 then f_Y8_puts_L6_J56 n1 n3 n4 n5 n6 (c_near n6.toNatClampNeg) 1 c_w c_near
  else f_Y8_puts_L6_J56 n1 n3 n4 n5 n6 (c_near n6.toNatClampNeg) 0 c_w c_near))
  else bnd1 (f_Y8_isFree (c_near n6.toNatClampNeg) c_w) (fun r18 =>
  (f_Y8_puts_L6_J56 n1 n3 n4 n5 n6 (c_near n6.toNatClampNeg) r18 c_w c_near)))))))
def f_Y8_puts (v1 : Int32) (v2 : Int32) (v3 : Int32) (v4 : Int32) (c_w : Nat → Int32) (c_near : Nat → Int32) : Option (Int32 × (Nat → Int32)) :=
  (bnd2 (loop (fun z => f_Y8_puts_L6 v1 v3 v4 c_near z.1 z.2.1 z.2.2) fu (v2, 0, c_w)) fun m21 c22 =>
  some (m21, c22))
def f_Y8_comeIn_J92 (n1 : Int32) (n2 : Int32) (n3 : Int32) (n4 : Int32) (t1 : Int32) (c_raised : Int32) (c_undos : Int32) (c_eldest : Int32) (c_w : Nat → Int32) (c_kept : Nat → Int32) (c_near : Nat → Int32) : Option (Int32 × Int32 × Int32 × Int32 × (Nat → Int32) × (Nat → Int32)) :=
  bnd2 (f_Y8_can t1 3 c_raised) (fun r16 o18 =>
  ((if r16 = 0 then some (0, o18, c_undos, c_eldest, c_w, c_kept)
  else bnd3 (f_Y8_keep c_undos c_eldest c_w c_kept) (fun o22 o23 o24 =>
  (gd 6 2450 (gd 6 2450 (gd 6 2450 (gd (207 + (c_w (6 : Int32).toNatClampNeg)) 2450 (gd (231 + (c_w (6 : Int32).toNatClampNeg)) 2450 (gd (255 + (c_w (6 : Int32).toNatClampNeg)) 2450 (gd (279 + (c_w (6 : Int32).toNatClampNeg)) 2450 (gd 9 2450 (bnd2 (f_Y8_puts (c_w (6 : Int32).toNatClampNeg) n2 1 1 (upd (upd (upd (upd (upd c_w (6 : Int32).toNatClampNeg ((c_w (6 : Int32).toNatClampNeg) + 1)) (207 + (c_w (6 : Int32).toNatClampNeg)).toNatClampNeg n1) (231 + (c_w (6 : Int32).toNatClampNeg)).toNatClampNeg n3) (255 + (c_w (6 : Int32).toNatClampNeg)).toNatClampNeg n4) (279 + (c_w (6 : Int32).toNatClampNeg)).toNatClampNeg 0) c_near) (fun r33 o35 =>
  (gd 9 2450 (some (c_w (6 : Int32).toNatClampNeg, o18, o22, o23, upd o35 (9 : Int32).toNatClampNeg (((upd (upd (upd (upd (upd c_w (6 : Int32).toNatClampNeg ((c_w (6 : Int32).toNatClampNeg) + 1)) (207 + (c_w (6 : Int32).toNatClampNeg)).toNatClampNeg n1) (231 + (c_w (6 : Int32).toNatClampNeg)).toNatClampNeg n3) (255 + (c_w (6 : Int32).toNatClampNeg)).toNatClampNeg n4) (279 + (c_w (6 : Int32).toNatClampNeg)).toNatClampNeg 0) (9 : Int32).toNatClampNeg) + (n2 - r33)), o24)))))))))))))))))
def f_Y8_comeIn_J91 (n1 : Int32) (n2 : Int32) (n3 : Int32) (n4 : Int32) (c_raised : Int32) (c_undos : Int32) (c_eldest : Int32) (c_w : Nat → Int32) (c_kept : Nat → Int32) (c_near : Nat → Int32) : Option (Int32 × Int32 × Int32 × Int32 × (Nat → Int32) × (Nat → Int32)) :=
  f_Y8_comeIn_J92 n1 n2 n3 n4 0 c_raised c_undos c_eldest c_w c_kept c_near
def f_Y8_comeIn_J57 (n1 : Int32) (n2 : Int32) (n3 : Int32) (n4 : Int32) (t1 : Int32) (c_raised : Int32) (c_undos : Int32) (c_eldest : Int32) (c_w : Nat → Int32) (c_kept : Nat → Int32) (c_near : Nat → Int32) : Option (Int32 × Int32 × Int32 × Int32 × (Nat → Int32) × (Nat → Int32)) :=
  bnd2 (f_Y8_can t1 2 c_raised) (fun r10 o12 =>
  ((if r10 = 0 then some (0, o12, c_undos, c_eldest, c_w, c_kept)
  else gd 6 2450 ((if 24 ≤ (c_w (6 : Int32).toNatClampNeg) then f_Y8_comeIn_J91 n1 n2 n3 n4 o12 c_undos c_eldest c_w c_kept c_near
  else bnd1 (f_Y8_freeRoom c_w) (fun r37 =>
  ((if r37 < n2 then f_Y8_comeIn_J91 n1 n2 n3 n4 o12 c_undos c_eldest c_w c_kept c_near
  else f_Y8_comeIn_J92 n1 n2 n3 n4 1 o12 c_undos c_eldest c_w c_kept c_near))))))))
def f_Y8_comeIn_J56 (n1 : Int32) (n2 : Int32) (n3 : Int32) (n4 : Int32) (c_raised : Int32) (c_undos : Int32) (c_eldest : Int32) (c_w : Nat → Int32) (c_kept : Nat → Int32) (c_near : Nat → Int32) : Option (Int32 × Int32 × Int32 × Int32 × (Nat → Int32) × (Nat → Int32)) :=
  f_Y8_comeIn_J57 n1 n2 n3 n4 0 c_raised c_undos c_eldest c_w c_kept c_near
def f_Y8_comeIn (v1 : Int32) (v2 : Int32) (v3 : Int32) (v4 : Int32) (c_raised : Int32) (c_undos : Int32) (c_eldest : Int32) (c_w : Nat → Int32) (c_kept : Nat → Int32) (c_near : Nat → Int32) : Option (Int32 × Int32 × Int32 × Int32 × (Nat → Int32) × (Nat → Int32)) :=
  bnd1 (f_Y8_isProduct v1 c_w) (fun r1 =>
  (bnd2 (f_Y8_can r1 1 c_raised) (fun r3 o5 =>
  ((if r3 = 0 then some (0, o5, c_undos, c_eldest, c_w, c_kept)
  else bnd1 (f_Y8_in v2 1 100) (fun r7 =>
  ((if r7 = 0 then f_Y8_comeIn_J56 v1 v2 v3 v4 o5 c_undos c_eldest c_w c_kept c_near
  else gd 0 2450 (bnd1 (f_Y8_in v3 (c_w (0 : Int32).toNatClampNeg) 2556) (fun r41 =>
  ((if r41 = 0 then f_Y8_comeIn_J56 v1 v2 v3 v4 o5 c_undos c_eldest c_w c_kept c_near
  else bnd1 (f_Y8_in v4 0 9999) (fun r44 =>
  ((if r44 = 0 then f_Y8_comeIn_J56 v1 v2 v3 v4 o5 c_undos c_eldest c_w c_kept c_near
  else f_Y8_comeIn_J57 v1 v2 v3 v4 1 o5 c_undos c_eldest c_w c_kept c_near)))))))))))))))
def f_Y8_hold_J84 (n3 : Int32) (t1 : Int32) (t2 : Int32) (c_raised : Int32) (c_undos : Int32) (c_eldest : Int32) (c_w : Nat → Int32) (c_kept : Nat → Int32) : Option (Int32 × Int32 × Int32 × Int32 × (Nat → Int32) × (Nat → Int32)) :=
  gd t1 2450 (gb n3 (some (n3, c_raised, c_undos, c_eldest, upd c_w t1.toNatClampNeg t2, c_kept)))
def f_Y8_hold_J65 (n1 : Int32) (n2 : Int32) (t0 : Int32) (c_raised : Int32) (c_undos : Int32) (c_eldest : Int32) (c_w : Nat → Int32) (c_kept : Nat → Int32) : Option (Int32 × Int32 × Int32 × Int32 × (Nat → Int32) × (Nat → Int32)) :=
  (if n2 = 0 then f_Y8_hold_J84 t0 (279 + n1) 0 c_raised c_undos c_eldest c_w c_kept
  else f_Y8_hold_J84 t0 (279 + n1) 1 c_raised c_undos c_eldest c_w c_kept)
def f_Y8_hold_J33 (n1 : Int32) (n2 : Int32) (t1 : Int32) (c_raised : Int32) (c_undos : Int32) (c_eldest : Int32) (c_w : Nat → Int32) (c_kept : Nat → Int32) : Option (Int32 × Int32 × Int32 × Int32 × (Nat → Int32) × (Nat → Int32)) :=
  bnd2 (f_Y8_can t1 2 c_raised) (fun r9 o11 =>
  ((if r9 = 0 then some (0, o11, c_undos, c_eldest, c_w, c_kept)
  else bnd3 (f_Y8_keep c_undos c_eldest c_w c_kept) (fun o15 o16 o17 =>
  (gd (279 + n1) 2450 ((if (c_w (279 + n1).toNatClampNeg) = 1 then f_Y8_hold_J65 n1 n2 1 o11 o15 o16 c_w o17
  else f_Y8_hold_J65 n1 n2 0 o11 o15 o16 c_w o17)))))))
def f_Y8_hold (v1 : Int32) (v2 : Int32) (c_raised : Int32) (c_undos : Int32) (c_eldest : Int32) (c_w : Nat → Int32) (c_kept : Nat → Int32) : Option (Int32 × Int32 × Int32 × Int32 × (Nat → Int32) × (Nat → Int32)) :=
  bnd1 (f_Y8_isLot v1 c_w) (fun r1 =>
  (bnd2 (f_Y8_can r1 1 c_raised) (fun r3 o5 =>
  ((if r3 = 0 then some (0, o5, c_undos, c_eldest, c_w, c_kept)
  else gd (279 + v1) 2450 ((if (c_w (279 + v1).toNatClampNeg) = 2 then f_Y8_hold_J33 v1 v2 0 o5 c_undos c_eldest c_w c_kept
  else f_Y8_hold_J33 v1 v2 1 o5 c_undos c_eldest c_w c_kept)))))))
def f_Y8_onHand_L4_J39 (n1 : Int32) (n3 : Int32) (t0 : Int32) (t1 : Int32) (c_w : Nat → Int32) : Option ((Int32 × Int32) ⊕ Int32) :=
  some (.inl (t0 + t1, n3 + 1))
def f_Y8_onHand_L4 (n1 : Int32) (c_w : Nat → Int32) (n2 : Int32) (n3 : Int32) : Option ((Int32 × Int32) ⊕ Int32) :=
  bnd1 (f_Y8_places c_w) (fun r1 =>
  ((if r1 ≤ n3 then some (.inr n2)
  else gd (15 + n3) 2450 ((if (c_w (15 + n3).toNatClampNeg) = n1 then gd (63 + n3) 2450 (f_Y8_onHand_L4_J39 n1 n3 n2 (c_w (63 + n3).toNatClampNeg) c_w)
  else f_Y8_onHand_L4_J39 n1 n3 n2 0 c_w)))))
def f_Y8_onHand (v1 : Int32) (c_w : Nat → Int32) : Option (Int32) :=
  (bnd1 (loop (fun z => f_Y8_onHand_L4 v1 c_w z.1 z.2) fu (0, 0)) fun m8 =>
  some m8)
def f_Y8_recall_L65_J100 (n1 : Int32) (n2 : Int32) (n3 : Int32) (c_raised : Int32) (c_undos : Int32) (c_eldest : Int32) (c_w : Nat → Int32) (c_kept : Nat → Int32) : Option ((Int32 × (Nat → Int32)) ⊕ (Nat → Int32)) :=
  some (.inl (n3 + 1, c_w))
def f_Y8_recall_L65 (n1 : Int32) (n2 : Int32) (c_raised : Int32) (c_undos : Int32) (c_eldest : Int32) (c_kept : Nat → Int32) (n3 : Int32) (c_w : Nat → Int32) : Option ((Int32 × (Nat → Int32)) ⊕ (Nat → Int32)) :=
  bnd1 (f_Y8_places c_w) (fun r21 =>
  ((if r21 ≤ n3 then some (.inr c_w)
  else gd (15 + n3) 2450 ((if (c_w (15 + n3).toNatClampNeg) = n1 then gd (63 + n3) 2450 (bnd1 (f_Y8_scraps n3 (c_w (63 + n3).toNatClampNeg) c_w) (fun o29 =>
  (f_Y8_recall_L65_J100 n1 n2 n3 c_raised c_undos c_eldest o29 c_kept)))
  else f_Y8_recall_L65_J100 n1 n2 n3 c_raised c_undos c_eldest c_w c_kept)))))
def f_Y8_recall_J33 (n1 : Int32) (t1 : Int32) (c_raised : Int32) (c_undos : Int32) (c_eldest : Int32) (c_w : Nat → Int32) (c_kept : Nat → Int32) : Option (Int32 × Int32 × Int32 × Int32 × (Nat → Int32) × (Nat → Int32)) :=
  bnd2 (f_Y8_can t1 2 c_raised) (fun r9 o11 =>
  ((if r9 = 0 then some (0, o11, c_undos, c_eldest, c_w, c_kept)
  else bnd3 (f_Y8_keep c_undos c_eldest c_w c_kept) (fun o15 o16 o17 =>
  (gd (279 + n1) 2450 (bnd1 (f_Y8_onHand n1 (upd c_w (279 + n1).toNatClampNeg 2)) (fun r19 =>
  ((bnd1 (loop (fun z => f_Y8_recall_L65 n1 r19 o11 o15 o16 o17 z.1 z.2) fu (0, upd c_w (279 + n1).toNatClampNeg 2)) fun c31 =>
  some (r19, o11, o15, o16, c31, o17))))))))))
def f_Y8_recall (v1 : Int32) (c_raised : Int32) (c_undos : Int32) (c_eldest : Int32) (c_w : Nat → Int32) (c_kept : Nat → Int32) : Option (Int32 × Int32 × Int32 × Int32 × (Nat → Int32) × (Nat → Int32)) :=
  bnd1 (f_Y8_isLot v1 c_w) (fun r1 =>
  (bnd2 (f_Y8_can r1 1 c_raised) (fun r3 o5 =>
  ((if r3 = 0 then some (0, o5, c_undos, c_eldest, c_w, c_kept)
  else gd (279 + v1) 2450 ((if (c_w (279 + v1).toNatClampNeg) = 2 then f_Y8_recall_J33 v1 0 o5 c_undos c_eldest c_w c_kept
  else f_Y8_recall_J33 v1 1 o5 c_undos c_eldest c_w c_kept)))))))
def f_Y8_has (v1 : Int32) (v2 : Int32) (c_w : Nat → Int32) : Option (Int32) :=
  gd ((503 + (24 * v1)) + v2) 2450 (some (c_w ((503 + (24 * v1)) + v2).toNatClampNeg))
def f_Y8_withCustomers_L4 (n1 : Int32) (c_w : Nat → Int32) (n2 : Int32) (n3 : Int32) : Option ((Int32 × Int32) ⊕ Int32) :=
  gd 7 2450 ((if (c_w (7 : Int32).toNatClampNeg) ≤ n3 then some (.inr n2)
  else bnd1 (f_Y8_has n3 n1 c_w) (fun r3 =>
  (some (.inl (n2 + r3, n3 + 1))))))
def f_Y8_withCustomers (v1 : Int32) (c_w : Nat → Int32) : Option (Int32) :=
  (bnd1 (loop (fun z => f_Y8_withCustomers_L4 v1 c_w z.1 z.2) fu (0, 0)) fun m6 =>
  some m6)
def f_Y8_lotAt (v1 : Int32) (v2 : Int32) (c_raised : Int32) (c_w : Nat → Int32) : Option (Int32 × Int32) :=
  bnd1 (f_Y8_isLot v1 c_w) (fun r1 =>
  (bnd2 (f_Y8_can r1 1 c_raised) (fun r3 o5 =>
  ((if r3 = 0 then some (0, o5)
  else bnd1 (f_Y8_in v2 0 5) (fun r7 =>
  (bnd2 (f_Y8_can r7 2 o5) (fun r9 o11 =>
  ((if r9 = 0 then some (0, o11)
  else (if v2 = 0 then gd (207 + v1) 2450 (some (c_w (207 + v1).toNatClampNeg, o11))
  else (if v2 = 1 then bnd1 (f_Y8_onHand v1 c_w) (fun r16 =>
  (some (r16, o11)))
  else (if v2 = 2 then gd (231 + v1) 2450 (some (c_w (231 + v1).toNatClampNeg, o11))
  else (if v2 = 3 then gd (255 + v1) 2450 (some (c_w (255 + v1).toNatClampNeg, o11))
  else (if v2 = 4 then gd (279 + v1) 2450 (some (c_w (279 + v1).toNatClampNeg, o11))
  else bnd1 (f_Y8_withCustomers v1 c_w) (fun r24 =>
  (some (r24, o11))))))))))))))))))
def f_Y8_lotCount (c_raised : Int32) (c_w : Nat → Int32) : Option (Int32 × Int32) :=
  gd 6 2450 (some (c_w (6 : Int32).toNatClampNeg, 0))
def f_Y8_stock_L19_J54 (n1 : Int32) (n3 : Int32) (t0 : Int32) (t1 : Int32) (c_raised : Int32) (c_w : Nat → Int32) : Option ((Int32 × Int32) ⊕ Int32) :=
  some (.inl (t0 + t1, n3 + 1))
def f_Y8_stock_L19 (n1 : Int32) (c_raised : Int32) (c_w : Nat → Int32) (n2 : Int32) (n3 : Int32) : Option ((Int32 × Int32) ⊕ Int32) :=
  gd 6 2450 ((if (c_w (6 : Int32).toNatClampNeg) ≤ n3 then some (.inr n2)
  else gd (207 + n3) 2450 ((if (c_w (207 + n3).toNatClampNeg) = n1 then bnd1 (f_Y8_onHand n3 c_w) (fun r11 =>
  (f_Y8_stock_L19_J54 n1 n3 n2 r11 c_raised c_w))
  else f_Y8_stock_L19_J54 n1 n3 n2 0 c_raised c_w))))
def f_Y8_stock (v1 : Int32) (c_raised : Int32) (c_w : Nat → Int32) : Option (Int32 × Int32) :=
  bnd1 (f_Y8_isProduct v1 c_w) (fun r1 =>
  (bnd2 (f_Y8_can r1 1 c_raised) (fun r3 o5 =>
  ((if r3 = 0 then some (0, o5)
  else (bnd1 (loop (fun z => f_Y8_stock_L19 v1 o5 c_w z.1 z.2) fu (0, 0)) fun m14 =>
  some (m14, o5)))))))
def f_Y8_stockCost_L20_J72 (n1 : Int32) (n4 : Int32) (t0 : Int64) (t1 : Int64) (c_raised : Int32) (c_w : Nat → Int32) : Option ((Int64 × Int32) ⊕ Int64) :=
  some (.inl (t0 + t1, n4 + 1))
def f_Y8_stockCost_L20 (n1 : Int32) (c_raised : Int32) (c_w : Nat → Int32) (n2 : Int64) (n4 : Int32) : Option ((Int64 × Int32) ⊕ Int64) :=
  gd 6 2450 ((if (c_w (6 : Int32).toNatClampNeg) ≤ n4 then some (.inr n2)
  else gd (207 + n4) 2450 ((if (c_w (207 + n4).toNatClampNeg) = n1 then bnd1 (f_Y8_onHand n4 c_w) (fun r11 =>
  (gd (255 + n4) 2450 (f_Y8_stockCost_L20_J72 n1 n4 n2 (r11.toInt64 * ((c_w (255 + n4).toNatClampNeg).toInt64)) c_raised c_w)))
  else f_Y8_stockCost_L20_J72 n1 n4 n2 0 c_raised c_w))))
def f_Y8_stockCost (v1 : Int32) (c_raised : Int32) (c_w : Nat → Int32) : Option (Int64 × Int32) :=
  bnd1 (f_Y8_isProduct v1 c_w) (fun r1 =>
  (bnd2 (f_Y8_can r1 1 c_raised) (fun r3 o5 =>
  ((if r3 = 0 then some (0, o5)
  else (bnd1 (loop (fun z => f_Y8_stockCost_L20 v1 o5 c_w z.1 z.2) fu (0, 0)) fun m15 =>
  some (m15, o5)))))))
def f_Y8_customersOf_L19_J56 (n1 : Int32) (n3 : Int32) (t0 : Int32) (t1 : Int32) (c_raised : Int32) (c_w : Nat → Int32) : Option ((Int32 × Int32) ⊕ Int32) :=
  some (.inl (t0 ||| t1, n3 + 1))
def f_Y8_customersOf_L19 (n1 : Int32) (c_raised : Int32) (c_w : Nat → Int32) (n2 : Int32) (n3 : Int32) : Option ((Int32 × Int32) ⊕ Int32) :=
  gd 7 2450 ((if (c_w (7 : Int32).toNatClampNeg) ≤ n3 then some (.inr n2)
  else bnd1 (f_Y8_has n3 n1 c_w) (fun r9 =>
  ((if r9 ≤ 0 then f_Y8_customersOf_L19_J56 n1 n3 n2 0 c_raised c_w
  else gd (303 + n3) 2450 (f_Y8_customersOf_L19_J56 n1 n3 n2 (1 <<< ((c_w (303 + n3).toNatClampNeg) &&& 31)) c_raised c_w))))))
def f_Y8_customersOf (v1 : Int32) (c_raised : Int32) (c_w : Nat → Int32) : Option (Int32 × Int32) :=
  bnd1 (f_Y8_isLot v1 c_w) (fun r1 =>
  (bnd2 (f_Y8_can r1 1 c_raised) (fun r3 o5 =>
  ((if r3 = 0 then some (0, o5)
  else (bnd1 (loop (fun z => f_Y8_customersOf_L19 v1 o5 c_w z.1 z.2) fu (0, 0)) fun m14 =>
  some (m14, o5)))))))
def f_Y8_placeCount (c_raised : Int32) (c_w : Nat → Int32) : Option (Int32 × Int32) :=
  bnd1 (f_Y8_places c_w) (fun r1 =>
  (some (r1, 0)))
def f_Y8_placeAt (v1 : Int32) (v2 : Int32) (c_raised : Int32) (c_w : Nat → Int32) : Option (Int32 × Int32) :=
  bnd1 (f_Y8_isPlace v1 c_w) (fun r1 =>
  (bnd2 (f_Y8_can r1 1 c_raised) (fun r3 o5 =>
  ((if r3 = 0 then some (0, o5)
  else bnd1 (f_Y8_in v2 0 3) (fun r7 =>
  (bnd2 (f_Y8_can r7 2 o5) (fun r9 o11 =>
  ((if r9 = 0 then some (0, o11)
  else (if v2 = 0 then gd (15 + v1) 2450 (some (c_w (15 + v1).toNatClampNeg, o11))
  else (if v2 = 1 then gd (63 + v1) 2450 (some (c_w (63 + v1).toNatClampNeg, o11))
  else (if v2 = 2 then bnd1 (f_Y8_distanceOf v1 c_w) (fun r17 =>
  (some (r17, o11)))
  else gd (111 + v1) 2450 (some (c_w (111 + v1).toNatClampNeg, o11)))))))))))))))
def f_Y8_firstFree_L2 (c_raised : Int32) (c_w : Nat → Int32) (c_near : Nat → Int32) (n1 : Int32) : Option ((Int32) ⊕ Int32) :=
  bnd1 (f_Y8_places c_w) (fun r1 =>
  ((if r1 ≤ n1 then some (.inr n1)
  else gd n1 48 (bnd1 (f_Y8_isFree (c_near n1.toNatClampNeg) c_w) (fun r5 =>
  ((if r5 = 0 then some (.inl (n1 + 1))
  else some (.inr n1))))))))
def f_Y8_firstFree_J43 (n1 : Int32) (t1 : Int32) (c_raised : Int32) (c_w : Nat → Int32) (c_near : Nat → Int32) : Option (Int32 × Int32) :=
  bnd2 (f_Y8_can t1 1 c_raised) (fun r13 o15 =>
  ((if r13 = 0 then some (0, o15)
  else gd n1 48 (some (c_near n1.toNatClampNeg, o15)))))
def f_Y8_firstFree (c_raised : Int32) (c_w : Nat → Int32) (c_near : Nat → Int32) : Option (Int32 × Int32) :=
  (bnd1 (loop (fun z => f_Y8_firstFree_L2 c_raised c_w c_near z) fu 0) fun m9 =>
  bnd1 (f_Y8_places c_w) (fun r10 =>
  ((if r10 ≤ m9 then f_Y8_firstFree_J43 m9 0 c_raised c_w c_near
  else f_Y8_firstFree_J43 m9 1 c_raised c_w c_near))))
def f_Y8_count_J125 (n3 : Int32) (t1 : Int32) (t2 : Int32) (t3 : Int32) (c_raised : Int32) (c_undos : Int32) (c_eldest : Int32) (c_w : Nat → Int32) (c_kept : Nat → Int32) : Option (Int32 × Int32 × Int32 × Int32 × (Nat → Int32) × (Nat → Int32)) :=
  gd t1 2450 (some (n3, c_raised, c_undos, c_eldest, upd c_w t1.toNatClampNeg (t2 + t3), c_kept))
def f_Y8_count_J106 (n3 : Int32) (t1 : Int32) (t2 : Int32) (t3 : Int32) (c_raised : Int32) (c_undos : Int32) (c_eldest : Int32) (c_w : Nat → Int32) (c_kept : Nat → Int32) : Option (Int32 × Int32 × Int32 × Int32 × (Nat → Int32) × (Nat → Int32)) :=
  gd t1 2450 (gd 14 2450 ((if n3 ≤ 0 then f_Y8_count_J125 n3 14 ((upd c_w t1.toNatClampNeg (t2 + t3)) (14 : Int32).toNatClampNeg) 0 c_raised c_undos c_eldest (upd c_w t1.toNatClampNeg (t2 + t3)) c_kept
  else f_Y8_count_J125 n3 14 ((upd c_w t1.toNatClampNeg (t2 + t3)) (14 : Int32).toNatClampNeg) n3 c_raised c_undos c_eldest (upd c_w t1.toNatClampNeg (t2 + t3)) c_kept)))
def f_Y8_count_J46 (n1 : Int32) (n2 : Int32) (t1 : Int32) (c_raised : Int32) (c_undos : Int32) (c_eldest : Int32) (c_w : Nat → Int32) (c_kept : Nat → Int32) : Option (Int32 × Int32 × Int32 × Int32 × (Nat → Int32) × (Nat → Int32)) :=
  bnd2 (f_Y8_can t1 3 c_raised) (fun r17 o19 =>
  ((if r17 = 0 then some (0, o19, c_undos, c_eldest, c_w, c_kept)
  else bnd3 (f_Y8_keep c_undos c_eldest c_w c_kept) (fun o23 o24 o25 =>
  (gd (63 + n1) 2450 (bnd1 (f_Y8_takes n1 (-(n2 - (c_w (63 + n1).toNatClampNeg))) c_w) (fun o29 =>
  (gd (111 + n1) 2450 (gd 13 2450 ((if 0 ≤ (n2 - (c_w (63 + n1).toNatClampNeg)) then f_Y8_count_J106 (n2 - (c_w (63 + n1).toNatClampNeg)) 13 ((upd o29 (111 + n1).toNatClampNeg 4) (13 : Int32).toNatClampNeg) 0 o19 o23 o24 (upd o29 (111 + n1).toNatClampNeg 4) o25
  else f_Y8_count_J106 (n2 - (c_w (63 + n1).toNatClampNeg)) 13 ((upd o29 (111 + n1).toNatClampNeg 4) (13 : Int32).toNatClampNeg) (-(n2 - (c_w (63 + n1).toNatClampNeg))) o19 o23 o24 (upd o29 (111 + n1).toNatClampNeg 4) o25)))))))))))
def f_Y8_count (v1 : Int32) (v2 : Int32) (c_raised : Int32) (c_undos : Int32) (c_eldest : Int32) (c_w : Nat → Int32) (c_kept : Nat → Int32) : Option (Int32 × Int32 × Int32 × Int32 × (Nat → Int32) × (Nat → Int32)) :=
  bnd1 (f_Y8_isPlace v1 c_w) (fun r1 =>
  (bnd2 (f_Y8_can r1 1 c_raised) (fun r3 o5 =>
  ((if r3 = 0 then some (0, o5, c_undos, c_eldest, c_w, c_kept)
  else gd 3 2450 (bnd1 (f_Y8_in v2 0 (c_w (3 : Int32).toNatClampNeg)) (fun r8 =>
  (bnd2 (f_Y8_can r8 2 o5) (fun r10 o12 =>
  ((if r10 = 0 then some (0, o12, c_undos, c_eldest, c_w, c_kept)
  else bnd1 (f_Y8_isFree v1 c_w) (fun r14 =>
  ((if r14 = 0 then f_Y8_count_J46 v1 v2 1 o12 c_undos c_eldest c_w c_kept
  else f_Y8_count_J46 v1 v2 0 o12 c_undos c_eldest c_w c_kept))))))))))))))
def f_Y8_scrap_J47 (n1 : Int32) (n2 : Int32) (t1 : Int32) (c_raised : Int32) (c_undos : Int32) (c_eldest : Int32) (c_w : Nat → Int32) (c_kept : Nat → Int32) : Option (Int32 × Int32 × Int32 × Int32 × (Nat → Int32) × (Nat → Int32)) :=
  bnd2 (f_Y8_can t1 3 c_raised) (fun r15 o17 =>
  ((if r15 = 0 then some (0, o17, c_undos, c_eldest, c_w, c_kept)
  else bnd3 (f_Y8_keep c_undos c_eldest c_w c_kept) (fun o21 o22 o23 =>
  (bnd1 (f_Y8_scraps n1 n2 c_w) (fun o26 =>
  (gd (63 + n1) 2450 (some (o26 (63 + n1).toNatClampNeg, o17, o21, o22, o26, o23)))))))))
def f_Y8_scrap (v1 : Int32) (v2 : Int32) (c_raised : Int32) (c_undos : Int32) (c_eldest : Int32) (c_w : Nat → Int32) (c_kept : Nat → Int32) : Option (Int32 × Int32 × Int32 × Int32 × (Nat → Int32) × (Nat → Int32)) :=
  bnd1 (f_Y8_isPlace v1 c_w) (fun r1 =>
  (bnd2 (f_Y8_can r1 1 c_raised) (fun r3 o5 =>
  ((if r3 = 0 then some (0, o5, c_undos, c_eldest, c_w, c_kept)
  else bnd1 (f_Y8_in v2 1 20) (fun r7 =>
  (bnd2 (f_Y8_can r7 2 o5) (fun r9 o11 =>
  ((if r9 = 0 then some (0, o11, c_undos, c_eldest, c_w, c_kept)
  else gd (63 + v1) 2450 ((if (c_w (63 + v1).toNatClampNeg) < v2 then f_Y8_scrap_J47 v1 v2 0 o11 c_undos c_eldest c_w c_kept
  else f_Y8_scrap_J47 v1 v2 1 o11 c_undos c_eldest c_w c_kept))))))))))))
def f_Y8_move_J69 (n1 : Int32) (n2 : Int32) (t1 : Int32) (c_raised : Int32) (c_undos : Int32) (c_eldest : Int32) (c_w : Nat → Int32) (c_kept : Nat → Int32) : Option (Int32 × Int32 × Int32 × Int32 × (Nat → Int32) × (Nat → Int32)) :=
  bnd2 (f_Y8_can t1 3 c_raised) (fun r16 o18 =>
  ((if r16 = 0 then some (0, o18, c_undos, c_eldest, c_w, c_kept)
  else bnd3 (f_Y8_keep c_undos c_eldest c_w c_kept) (fun o22 o23 o24 =>
  (gd (63 + n1) 2450 (gd (15 + n1) 2450 (gd (15 + n2) 2450 (gd (63 + n2) 2450 (bnd1 (f_Y8_takes n1 (c_w (63 + n1).toNatClampNeg) (upd (upd c_w (15 + n2).toNatClampNeg (c_w (15 + n1).toNatClampNeg)) (63 + n2).toNatClampNeg (c_w (63 + n1).toNatClampNeg))) (fun o31 =>
  (gd (111 + n1) 2450 (gd (111 + n2) 2450 (some (c_w (63 + n1).toNatClampNeg, o18, o22, o23, upd (upd o31 (111 + n1).toNatClampNeg 6) (111 + n2).toNatClampNeg 6, o24))))))))))))))
def f_Y8_move_J68 (n1 : Int32) (n2 : Int32) (c_raised : Int32) (c_undos : Int32) (c_eldest : Int32) (c_w : Nat → Int32) (c_kept : Nat → Int32) : Option (Int32 × Int32 × Int32 × Int32 × (Nat → Int32) × (Nat → Int32)) :=
  f_Y8_move_J69 n1 n2 0 c_raised c_undos c_eldest c_w c_kept
def f_Y8_move_J40 (n1 : Int32) (n2 : Int32) (t1 : Int32) (c_raised : Int32) (c_undos : Int32) (c_eldest : Int32) (c_w : Nat → Int32) (c_kept : Nat → Int32) : Option (Int32 × Int32 × Int32 × Int32 × (Nat → Int32) × (Nat → Int32)) :=
  bnd2 (f_Y8_can t1 2 c_raised) (fun r9 o11 =>
  ((if r9 = 0 then some (0, o11, c_undos, c_eldest, c_w, c_kept)
  else bnd1 (f_Y8_isFree n1 c_w) (fun r13 =>
  ((if r13 = 0 then bnd1 (f_Y8_isFree n2 c_w) (fun r34 =>
  ((if r34 = 0 then f_Y8_move_J68 n1 n2 o11 c_undos c_eldest c_w c_kept
  else f_Y8_move_J69 n1 n2 1 o11 c_undos c_eldest c_w c_kept)))
  else f_Y8_move_J68 n1 n2 o11 c_undos c_eldest c_w c_kept))))))
def f_Y8_move_J22 (n1 : Int32) (n2 : Int32) (t1 : Int32) (c_raised : Int32) (c_undos : Int32) (c_eldest : Int32) (c_w : Nat → Int32) (c_kept : Nat → Int32) : Option (Int32 × Int32 × Int32 × Int32 × (Nat → Int32) × (Nat → Int32)) :=
  bnd2 (f_Y8_can t1 1 c_raised) (fun r4 o6 =>
  ((if r4 = 0 then some (0, o6, c_undos, c_eldest, c_w, c_kept)
  else (if n1 = n2 then f_Y8_move_J40 n1 n2 0 o6 c_undos c_eldest c_w c_kept
  else f_Y8_move_J40 n1 n2 1 o6 c_undos c_eldest c_w c_kept))))
def f_Y8_move_J21 (n1 : Int32) (n2 : Int32) (c_raised : Int32) (c_undos : Int32) (c_eldest : Int32) (c_w : Nat → Int32) (c_kept : Nat → Int32) : Option (Int32 × Int32 × Int32 × Int32 × (Nat → Int32) × (Nat → Int32)) :=
  f_Y8_move_J22 n1 n2 0 c_raised c_undos c_eldest c_w c_kept
def f_Y8_move (v1 : Int32) (v2 : Int32) (c_raised : Int32) (c_undos : Int32) (c_eldest : Int32) (c_w : Nat → Int32) (c_kept : Nat → Int32) : Option (Int32 × Int32 × Int32 × Int32 × (Nat → Int32) × (Nat → Int32)) :=
  bnd1 (f_Y8_isPlace v1 c_w) (fun r1 =>
  ((if r1 = 0 then f_Y8_move_J21 v1 v2 c_raised c_undos c_eldest c_w c_kept
  else bnd1 (f_Y8_isPlace v2 c_w) (fun r37 =>
  ((if r37 = 0 then f_Y8_move_J21 v1 v2 c_raised c_undos c_eldest c_w c_kept
  else f_Y8_move_J22 v1 v2 1 c_raised c_undos c_eldest c_w c_kept))))))
def f_Y8_order_J103 (n1 : Int32) (n2 : Int32) (n3 : Int32) (n4 : Int32) (n5 : Int32) (t1 : Int32) (c_raised : Int32) (c_undos : Int32) (c_eldest : Int32) (c_w : Nat → Int32) (c_kept : Nat → Int32) : Option (Int32 × Int32 × Int32 × Int32 × (Nat → Int32) × (Nat → Int32)) :=
  bnd2 (f_Y8_can t1 3 c_raised) (fun r17 o19 =>
  ((if r17 = 0 then some (0, o19, c_undos, c_eldest, c_w, c_kept)
  else bnd3 (f_Y8_keep c_undos c_eldest c_w c_kept) (fun o23 o24 o25 =>
  (gd 7 2450 (gd 7 2450 (gd 7 2450 (gd (303 + (c_w (7 : Int32).toNatClampNeg)) 2450 (gd (343 + (c_w (7 : Int32).toNatClampNeg)) 2450 (gd (383 + (c_w (7 : Int32).toNatClampNeg)) 2450 (gd (423 + (c_w (7 : Int32).toNatClampNeg)) 2450 (gd (463 + (c_w (7 : Int32).toNatClampNeg)) 2450 (some (c_w (7 : Int32).toNatClampNeg, o19, o23, o24, upd (upd (upd (upd (upd (upd c_w (7 : Int32).toNatClampNeg ((c_w (7 : Int32).toNatClampNeg) + 1)) (303 + (c_w (7 : Int32).toNatClampNeg)).toNatClampNeg n1) (343 + (c_w (7 : Int32).toNatClampNeg)).toNatClampNeg n2) (383 + (c_w (7 : Int32).toNatClampNeg)).toNatClampNeg n3) (423 + (c_w (7 : Int32).toNatClampNeg)).toNatClampNeg n4) (463 + (c_w (7 : Int32).toNatClampNeg)).toNatClampNeg (n4 + n5), o25))))))))))))))
def f_Y8_order_J76 (n1 : Int32) (n2 : Int32) (n3 : Int32) (n4 : Int32) (n5 : Int32) (t1 : Int32) (c_raised : Int32) (c_undos : Int32) (c_eldest : Int32) (c_w : Nat → Int32) (c_kept : Nat → Int32) : Option (Int32 × Int32 × Int32 × Int32 × (Nat → Int32) × (Nat → Int32)) :=
  bnd2 (f_Y8_can t1 2 c_raised) (fun r11 o13 =>
  ((if r11 = 0 then some (0, o13, c_undos, c_eldest, c_w, c_kept)
  else gd 7 2450 ((if 40 ≤ (c_w (7 : Int32).toNatClampNeg) then f_Y8_order_J103 n1 n2 n3 n4 n5 0 o13 c_undos c_eldest c_w c_kept
  else f_Y8_order_J103 n1 n2 n3 n4 n5 1 o13 c_undos c_eldest c_w c_kept)))))
def f_Y8_order_J75 (n1 : Int32) (n2 : Int32) (n3 : Int32) (n4 : Int32) (n5 : Int32) (c_raised : Int32) (c_undos : Int32) (c_eldest : Int32) (c_w : Nat → Int32) (c_kept : Nat → Int32) : Option (Int32 × Int32 × Int32 × Int32 × (Nat → Int32) × (Nat → Int32)) :=
  f_Y8_order_J76 n1 n2 n3 n4 n5 0 c_raised c_undos c_eldest c_w c_kept
def f_Y8_order_J24 (n1 : Int32) (n2 : Int32) (n3 : Int32) (n4 : Int32) (n5 : Int32) (t1 : Int32) (c_raised : Int32) (c_undos : Int32) (c_eldest : Int32) (c_w : Nat → Int32) (c_kept : Nat → Int32) : Option (Int32 × Int32 × Int32 × Int32 × (Nat → Int32) × (Nat → Int32)) :=
  bnd2 (f_Y8_can t1 1 c_raised) (fun r4 o6 =>
  ((if r4 = 0 then some (0, o6, c_undos, c_eldest, c_w, c_kept)
  else bnd1 (f_Y8_in n3 1 50) (fun r8 =>
  ((if r8 = 0 then f_Y8_order_J75 n1 n2 n3 n4 n5 o6 c_undos c_eldest c_w c_kept
  else gd 0 2450 (bnd1 (f_Y8_in n4 (c_w (0 : Int32).toNatClampNeg) 2556) (fun r35 =>
  ((if r35 = 0 then f_Y8_order_J75 n1 n2 n3 n4 n5 o6 c_undos c_eldest c_w c_kept
  else bnd1 (f_Y8_in n5 0 400) (fun r38 =>
  ((if r38 = 0 then f_Y8_order_J75 n1 n2 n3 n4 n5 o6 c_undos c_eldest c_w c_kept
  else f_Y8_order_J76 n1 n2 n3 n4 n5 1 o6 c_undos c_eldest c_w c_kept)))))))))))))
def f_Y8_order_J23 (n1 : Int32) (n2 : Int32) (n3 : Int32) (n4 : Int32) (n5 : Int32) (c_raised : Int32) (c_undos : Int32) (c_eldest : Int32) (c_w : Nat → Int32) (c_kept : Nat → Int32) : Option (Int32 × Int32 × Int32 × Int32 × (Nat → Int32) × (Nat → Int32)) :=
  f_Y8_order_J24 n1 n2 n3 n4 n5 0 c_raised c_undos c_eldest c_w c_kept
def f_Y8_order (v1 : Int32) (v2 : Int32) (v3 : Int32) (v4 : Int32) (v5 : Int32) (c_raised : Int32) (c_undos : Int32) (c_eldest : Int32) (c_w : Nat → Int32) (c_kept : Nat → Int32) : Option (Int32 × Int32 × Int32 × Int32 × (Nat → Int32) × (Nat → Int32)) :=
  bnd1 (f_Y8_in v1 0 7) (fun r1 =>
  ((if r1 = 0 then f_Y8_order_J23 v1 v2 v3 v4 v5 c_raised c_undos c_eldest c_w c_kept
  else bnd1 (f_Y8_isProduct v2 c_w) (fun r41 =>
  ((if r41 = 0 then f_Y8_order_J23 v1 v2 v3 v4 v5 c_raised c_undos c_eldest c_w c_kept
  else f_Y8_order_J24 v1 v2 v3 v4 v5 1 c_raised c_undos c_eldest c_w c_kept))))))
def f_Y8_cancel (v1 : Int32) (c_raised : Int32) (c_undos : Int32) (c_eldest : Int32) (c_w : Nat → Int32) (c_kept : Nat → Int32) : Option (Int32 × Int32 × Int32 × Int32 × (Nat → Int32) × (Nat → Int32)) :=
  bnd1 (f_Y8_isOrder v1 c_w) (fun r1 =>
  (bnd2 (f_Y8_can r1 1 c_raised) (fun r3 o5 =>
  ((if r3 = 0 then some (0, o5, c_undos, c_eldest, c_w, c_kept)
  else bnd3 (f_Y8_keep c_undos c_eldest c_w c_kept) (fun o9 o10 o11 =>
  (gd (383 + v1) 2450 (gd (383 + v1) 2450 (some (c_w (383 + v1).toNatClampNeg, o5, o9, o10, upd c_w (383 + v1).toNatClampNeg 0, o11))))))))))
def f_Y8_hasAll_L4 (n1 : Int32) (c_w : Nat → Int32) (n2 : Int32) (n3 : Int32) : Option ((Int32 × Int32) ⊕ Int32) :=
  gd 6 2450 ((if (c_w (6 : Int32).toNatClampNeg) ≤ n3 then some (.inr n2)
  else bnd1 (f_Y8_has n1 n3 c_w) (fun r3 =>
  (some (.inl (n2 + r3, n3 + 1))))))
def f_Y8_hasAll (v1 : Int32) (c_w : Nat → Int32) : Option (Int32) :=
  (bnd1 (loop (fun z => f_Y8_hasAll_L4 v1 c_w z.1 z.2) fu (0, 0)) fun m6 =>
  some m6)
def f_Y8_latestLot_L4_J64 (n1 : Int32) (n2 : Int32) (n3 : Int32) (c_w : Nat → Int32) : Option ((Int32 × Int32) ⊕ Int32) :=
  some (.inl (n2, n3 + 1))
def f_Y8_latestLot_L4_J62 (n1 : Int32) (n3 : Int32) (c_w : Nat → Int32) : Option ((Int32 × Int32) ⊕ Int32) :=
  f_Y8_latestLot_L4_J64 n1 n3 n3 c_w
def f_Y8_latestLot_L4 (n1 : Int32) (c_w : Nat → Int32) (n2 : Int32) (n3 : Int32) : Option ((Int32 × Int32) ⊕ Int32) :=
  gd 6 2450 ((if (c_w (6 : Int32).toNatClampNeg) ≤ n3 then some (.inr n2)
  else bnd1 (f_Y8_has n1 n3 c_w) (fun r3 =>
  ((if r3 ≤ 0 then f_Y8_latestLot_L4_J64 n1 n2 n3 c_w
  else (if n2 = (-1) then f_Y8_latestLot_L4_J62 n1 n3 c_w
  else gd ((1463 + (24 * n1)) + n3) 2450 (gd ((1463 + (24 * n1)) + n2) 2450 ((if (c_w ((1463 + (24 * n1)) + n3).toNatClampNeg) ≤ (c_w ((1463 + (24 * n1)) + n2).toNatClampNeg) then f_Y8_latestLot_L4_J64 n1 n2 n3 c_w
  else f_Y8_latestLot_L4_J62 n1 n3 c_w)))))))))
def f_Y8_latestLot (v1 : Int32) (c_w : Nat → Int32) : Option (Int32) :=
  (bnd1 (loop (fun z => f_Y8_latestLot_L4 v1 c_w z.1 z.2) fu ((-1), 0)) fun m11 =>
  some m11)
def f_Y8_takesBack_J44 (n2 : Int32) (c_w : Nat → Int32) (c_near : Nat → Int32) : Option (Int32 × (Nat → Int32)) :=
  gd 12 2450 (gd 12 2450 (some (0, upd c_w (12 : Int32).toNatClampNeg ((c_w (12 : Int32).toNatClampNeg) + n2))))
def f_Y8_takesBack (v1 : Int32) (v2 : Int32) (c_w : Nat → Int32) (c_near : Nat → Int32) : Option (Int32 × (Nat → Int32)) :=
  gd 11 2450 (gd 11 2450 (gd (279 + v1) 2450 ((if ((upd c_w (11 : Int32).toNatClampNeg ((c_w (11 : Int32).toNatClampNeg) + v2)) (279 + v1).toNatClampNeg) = 2 then f_Y8_takesBack_J44 v2 (upd c_w (11 : Int32).toNatClampNeg ((c_w (11 : Int32).toNatClampNeg) + v2)) c_near
  else gd (231 + v1) 2450 (gd 0 2450 ((if ((upd c_w (11 : Int32).toNatClampNeg ((c_w (11 : Int32).toNatClampNeg) + v2)) (0 : Int32).toNatClampNeg) ≤ ((upd c_w (11 : Int32).toNatClampNeg ((c_w (11 : Int32).toNatClampNeg) + v2)) (231 + v1).toNatClampNeg) then bnd2 (f_Y8_puts v1 v2 0 3 (upd c_w (11 : Int32).toNatClampNeg ((c_w (11 : Int32).toNatClampNeg) + v2)) c_near) (fun r10 o12 =>
  (bnd2 (f_Y8_puts v1 r10 1 3 o12 c_near) (fun r13 o15 =>
  (some (r13, o15)))))
  else f_Y8_takesBack_J44 v2 (upd c_w (11 : Int32).toNatClampNeg ((c_w (11 : Int32).toNatClampNeg) + v2)) c_near)))))))
def f_Y8_keepsFrom_o_copy_L39 (n2 : Int32) (c_undos : Int32) (c_eldest : Int32) (c_copy : Nat → Int32) (n3 : Int32) (c_kept : Nat → Int32) : Option ((Int32 × (Nat → Int32)) ⊕ (Nat → Int32)) :=
  (if 2442 ≤ n3 then some (.inr c_kept)
  else gd n3 2450 (gd (n2 + n3) 19600 (some (.inl (n3 + 1, upd c_kept (n2 + n3).toNatClampNeg (c_copy n3.toNatClampNeg))))))
def f_Y8_keepsFrom_o_copy_J32 (c_undos : Int32) (c_eldest : Int32) (c_kept : Nat → Int32) (c_copy : Nat → Int32) : Option (Int32 × Int32 × (Nat → Int32)) :=
  bnd1 (f_Y8_keptAt c_undos c_eldest) (fun r2 =>
  ((bnd1 (loop (fun z => f_Y8_keepsFrom_o_copy_L39 r2 c_undos c_eldest c_copy z.1 z.2) fu (0, c_kept)) fun c8 =>
  some (c_undos + 1, c_eldest, c8))))
def f_Y8_keepsFrom_o_copy (c_undos : Int32) (c_eldest : Int32) (c_kept : Nat → Int32) (c_copy : Nat → Int32) : Option (Int32 × Int32 × (Nat → Int32)) :=
  (if c_undos = 8 then f_Y8_keepsFrom_o_copy_J32 (c_undos - 1) ((c_eldest + 1) - (c_eldest + 1) / 8 * 8) c_kept c_copy
  else f_Y8_keepsFrom_o_copy_J32 c_undos c_eldest c_kept c_copy)
def f_Y8_giveBack_L70_J106 (n1 : Int32) (n3 : Int32) (n4 : Int32) (n5 : Int32) (n6 : Int32) (t0 : Int32) (c_raised : Int32) (c_undos : Int32) (c_eldest : Int32) (c_w : Nat → Int32) (c_kept : Nat → Int32) (c_copy : Nat → Int32) (c_near : Nat → Int32) : Option ((Int32 × Int32 × (Nat → Int32)) ⊕ (Int32 × (Nat → Int32))) :=
  gd ((503 + (24 * n1)) + n6) 2450 (gd ((503 + (24 * n1)) + n6) 2450 (bnd2 (f_Y8_takesBack n6 t0 (upd c_w ((503 + (24 * n1)) + n6).toNatClampNeg ((c_w ((503 + (24 * n1)) + n6).toNatClampNeg) - t0)) c_near) (fun r32 o34 =>
  (some (.inl (n4 + r32, n5 - t0, o34))))))
def f_Y8_giveBack_L70 (n1 : Int32) (n3 : Int32) (c_raised : Int32) (c_undos : Int32) (c_eldest : Int32) (c_kept : Nat → Int32) (c_copy : Nat → Int32) (c_near : Nat → Int32) (n4 : Int32) (n5 : Int32) (c_w : Nat → Int32) : Option ((Int32 × Int32 × (Nat → Int32)) ⊕ (Int32 × (Nat → Int32))) :=
  (if n5 ≤ 0 then some (.inr (n4, c_w))
  else bnd1 (f_Y8_latestLot n1 c_w) (fun r25 =>
  (bnd1 (f_Y8_has n1 r25 c_w) (fun r27 =>
  ((if n5 ≤ r27 then f_Y8_giveBack_L70_J106 n1 n3 n4 n5 r25 n5 c_raised c_undos c_eldest c_w c_kept c_copy c_near
  else bnd1 (f_Y8_has n1 r25 c_w) (fun r35 =>
  (f_Y8_giveBack_L70_J106 n1 n3 n4 n5 r25 r35 c_raised c_undos c_eldest c_w c_kept c_copy c_near))))))))
def f_Y8_giveBack_J174 (n5 : Int32) (t1 : Int32) (c_raised : Int32) (c_undos : Int32) (c_eldest : Int32) (c_w : Nat → Int32) (c_kept : Nat → Int32) (c_copy : Nat → Int32) (c_near : Nat → Int32) : Option (Int32 × Int32 × Int32 × Int32 × (Nat → Int32) × (Nat → Int32) × (Nat → Int32)) :=
  bnd2 (f_Y8_can t1 3 c_raised) (fun r42 o44 =>
  ((if r42 = 0 then bnd1 (f_Y8_returns c_w c_copy) (fun o53 =>
  (some (0, o44, c_undos, c_eldest, o53, c_kept, c_copy)))
  else bnd3 (f_Y8_keepsFrom_o_copy c_undos c_eldest c_kept c_copy) (fun o48 o49 o50 =>
  (some (n5, o44, o48, o49, c_w, o50, c_copy))))))
def f_Y8_giveBack_J43 (n1 : Int32) (n2 : Int32) (t1 : Int32) (c_raised : Int32) (c_undos : Int32) (c_eldest : Int32) (c_w : Nat → Int32) (c_kept : Nat → Int32) (c_copy : Nat → Int32) (c_near : Nat → Int32) : Option (Int32 × Int32 × Int32 × Int32 × (Nat → Int32) × (Nat → Int32) × (Nat → Int32)) :=
  bnd2 (f_Y8_can t1 3 c_raised) (fun r16 o18 =>
  ((if r16 = 0 then some (0, o18, c_undos, c_eldest, c_w, c_kept, c_copy)
  else bnd1 (f_Y8_copies c_w c_copy) (fun o22 =>
  (gd 12 2450 ((bnd2 (loop (fun z => f_Y8_giveBack_L70 n1 (c_w (12 : Int32).toNatClampNeg) o18 c_undos c_eldest c_kept o22 c_near z.1 z.2.1 z.2.2) fu (0, n2, c_w)) fun m38 c39 =>
  gd 12 2450 ((if m38 = 0 then f_Y8_giveBack_J174 ((c39 (12 : Int32).toNatClampNeg) - (c_w (12 : Int32).toNatClampNeg)) 1 o18 c_undos c_eldest c39 c_kept o22 c_near
  else f_Y8_giveBack_J174 ((c39 (12 : Int32).toNatClampNeg) - (c_w (12 : Int32).toNatClampNeg)) 0 o18 c_undos c_eldest c39 c_kept o22 c_near)))))))))
def f_Y8_giveBack (v1 : Int32) (v2 : Int32) (c_raised : Int32) (c_undos : Int32) (c_eldest : Int32) (c_w : Nat → Int32) (c_kept : Nat → Int32) (c_copy : Nat → Int32) (c_near : Nat → Int32) : Option (Int32 × Int32 × Int32 × Int32 × (Nat → Int32) × (Nat → Int32) × (Nat → Int32)) :=
  bnd1 (f_Y8_isOrder v1 c_w) (fun r1 =>
  (bnd2 (f_Y8_can r1 1 c_raised) (fun r3 o5 =>
  ((if r3 = 0 then some (0, o5, c_undos, c_eldest, c_w, c_kept, c_copy)
  else bnd1 (f_Y8_in v2 1 50) (fun r7 =>
  (bnd2 (f_Y8_can r7 2 o5) (fun r9 o11 =>
  ((if r9 = 0 then some (0, o11, c_undos, c_eldest, c_w, c_kept, c_copy)
  else bnd1 (f_Y8_hasAll v1 c_w) (fun r13 =>
  ((if r13 < v2 then f_Y8_giveBack_J43 v1 v2 0 o11 c_undos c_eldest c_w c_kept c_copy c_near
  else f_Y8_giveBack_J43 v1 v2 1 o11 c_undos c_eldest c_w c_kept c_copy c_near)))))))))))))
def f_Y8_orderAt (v1 : Int32) (v2 : Int32) (c_raised : Int32) (c_w : Nat → Int32) : Option (Int32 × Int32) :=
  bnd1 (f_Y8_isOrder v1 c_w) (fun r1 =>
  (bnd2 (f_Y8_can r1 1 c_raised) (fun r3 o5 =>
  ((if r3 = 0 then some (0, o5)
  else bnd1 (f_Y8_in v2 0 5) (fun r7 =>
  (bnd2 (f_Y8_can r7 2 o5) (fun r9 o11 =>
  ((if r9 = 0 then some (0, o11)
  else (if v2 = 0 then gd (303 + v1) 2450 (some (c_w (303 + v1).toNatClampNeg, o11))
  else (if v2 = 1 then gd (343 + v1) 2450 (some (c_w (343 + v1).toNatClampNeg, o11))
  else (if v2 = 2 then gd (383 + v1) 2450 (some (c_w (383 + v1).toNatClampNeg, o11))
  else (if v2 = 3 then bnd1 (f_Y8_hasAll v1 c_w) (fun r20 =>
  (some (r20, o11)))
  else (if v2 = 4 then gd (423 + v1) 2450 (some (c_w (423 + v1).toNatClampNeg, o11))
  else gd (463 + v1) 2450 (some (c_w (463 + v1).toNatClampNeg, o11)))))))))))))))))
def f_Y8_lotsOf_L19_J47 (n1 : Int32) (n3 : Int32) (t0 : Int32) (t1 : Int32) (c_raised : Int32) (c_w : Nat → Int32) : Option ((Int32 × Int32) ⊕ Int32) :=
  some (.inl (t0 ||| t1, n3 + 1))
def f_Y8_lotsOf_L19 (n1 : Int32) (c_raised : Int32) (c_w : Nat → Int32) (n2 : Int32) (n3 : Int32) : Option ((Int32 × Int32) ⊕ Int32) :=
  gd 6 2450 ((if (c_w (6 : Int32).toNatClampNeg) ≤ n3 then some (.inr n2)
  else bnd1 (f_Y8_has n1 n3 c_w) (fun r9 =>
  ((if r9 ≤ 0 then f_Y8_lotsOf_L19_J47 n1 n3 n2 0 c_raised c_w
  else f_Y8_lotsOf_L19_J47 n1 n3 n2 (1 <<< (n3 &&& 31)) c_raised c_w)))))
def f_Y8_lotsOf (v1 : Int32) (c_raised : Int32) (c_w : Nat → Int32) : Option (Int32 × Int32) :=
  bnd1 (f_Y8_isOrder v1 c_w) (fun r1 =>
  (bnd2 (f_Y8_can r1 1 c_raised) (fun r3 o5 =>
  ((if r3 = 0 then some (0, o5)
  else (bnd1 (loop (fun z => f_Y8_lotsOf_L19 v1 o5 c_w z.1 z.2) fu (0, 0)) fun m13 =>
  some (m13, o5)))))))
def f_Y8_orderCount (c_raised : Int32) (c_w : Nat → Int32) : Option (Int32 × Int32) :=
  gd 7 2450 (some (c_w (7 : Int32).toNatClampNeg, 0))
def f_Y8_nextOrder_L4_J67 (n1 : Int32) (n2 : Int32) (c_w : Nat → Int32) (c_isDone : Nat → Int32) : Option ((Int32 × Int32) ⊕ Int32) :=
  some (.inl (n1, n2 + 1))
def f_Y8_nextOrder_L4_J65 (n2 : Int32) (c_w : Nat → Int32) (c_isDone : Nat → Int32) : Option ((Int32 × Int32) ⊕ Int32) :=
  f_Y8_nextOrder_L4_J67 n2 n2 c_w c_isDone
def f_Y8_nextOrder_L4 (c_w : Nat → Int32) (c_isDone : Nat → Int32) (n1 : Int32) (n2 : Int32) : Option ((Int32 × Int32) ⊕ Int32) :=
  gd 7 2450 ((if (c_w (7 : Int32).toNatClampNeg) ≤ n2 then some (.inr n1)
  else gd n2 40 ((if (c_isDone n2.toNatClampNeg) = 0 then gd (383 + n2) 2450 ((if (c_w (383 + n2).toNatClampNeg) ≤ 0 then f_Y8_nextOrder_L4_J67 n1 n2 c_w c_isDone
  else (if n1 = (-1) then f_Y8_nextOrder_L4_J65 n2 c_w c_isDone
  else gd (423 + n2) 2450 (gd (423 + n1) 2450 ((if (c_w (423 + n1).toNatClampNeg) ≤ (c_w (423 + n2).toNatClampNeg) then f_Y8_nextOrder_L4_J67 n1 n2 c_w c_isDone
  else f_Y8_nextOrder_L4_J65 n2 c_w c_isDone))))))
  else f_Y8_nextOrder_L4_J67 n1 n2 c_w c_isDone))))
def f_Y8_nextOrder (c_w : Nat → Int32) (c_isDone : Nat → Int32) : Option (Int32) :=
  (bnd1 (loop (fun z => f_Y8_nextOrder_L4 c_w c_isDone z.1 z.2) fu ((-1), 0)) fun m12 =>
  some m12)
def f_Y8_nextLot_L4_J124 (n1 : Int32) (n2 : Int32) (n3 : Int32) (c_w : Nat → Int32) : Option ((Int32 × Int32) ⊕ Int32) :=
  some (.inl (n2, n3 + 1))
def f_Y8_nextLot_L4_J122 (n1 : Int32) (n3 : Int32) (c_w : Nat → Int32) : Option ((Int32 × Int32) ⊕ Int32) :=
  f_Y8_nextLot_L4_J124 n1 n3 n3 c_w
def f_Y8_nextLot_L4_J87 (n1 : Int32) (n2 : Int32) (n3 : Int32) (t0 : Int32) (c_w : Nat → Int32) : Option ((Int32 × Int32) ⊕ Int32) :=
  (if t0 = 0 then f_Y8_nextLot_L4_J124 n1 n2 n3 c_w
  else (if n2 = (-1) then f_Y8_nextLot_L4_J122 n1 n3 c_w
  else gd (231 + n3) 2450 (gd (231 + n2) 2450 ((if (c_w (231 + n2).toNatClampNeg) ≤ (c_w (231 + n3).toNatClampNeg) then f_Y8_nextLot_L4_J124 n1 n2 n3 c_w
  else f_Y8_nextLot_L4_J122 n1 n3 c_w)))))
def f_Y8_nextLot_L4_J86 (n1 : Int32) (n2 : Int32) (n3 : Int32) (c_w : Nat → Int32) : Option ((Int32 × Int32) ⊕ Int32) :=
  f_Y8_nextLot_L4_J87 n1 n2 n3 0 c_w
def f_Y8_nextLot_L4 (n1 : Int32) (c_w : Nat → Int32) (n2 : Int32) (n3 : Int32) : Option ((Int32 × Int32) ⊕ Int32) :=
  gd 6 2450 ((if (c_w (6 : Int32).toNatClampNeg) ≤ n3 then some (.inr n2)
  else gd (207 + n3) 2450 (gd (343 + n1) 2450 ((if (c_w (207 + n3).toNatClampNeg) = (c_w (343 + n1).toNatClampNeg) then gd (279 + n3) 2450 ((if (c_w (279 + n3).toNatClampNeg) = 0 then gd (231 + n3) 2450 (gd (463 + n1) 2450 ((if (c_w (231 + n3).toNatClampNeg) < (c_w (463 + n1).toNatClampNeg) then f_Y8_nextLot_L4_J86 n1 n2 n3 c_w
  else bnd1 (f_Y8_onHand n3 c_w) (fun r16 =>
  ((if r16 ≤ 0 then f_Y8_nextLot_L4_J86 n1 n2 n3 c_w
  else f_Y8_nextLot_L4_J87 n1 n2 n3 1 c_w))))))
  else f_Y8_nextLot_L4_J86 n1 n2 n3 c_w))
  else f_Y8_nextLot_L4_J86 n1 n2 n3 c_w)))))
def f_Y8_nextLot (v1 : Int32) (c_w : Nat → Int32) : Option (Int32) :=
  (bnd1 (loop (fun z => f_Y8_nextLot_L4 v1 c_w z.1 z.2) fu ((-1), 0)) fun m20 =>
  some m20)
def f_Y8_gives_L35_J200 (n1 : Int32) (n2 : Int32) (n3 : Int32) (c_w : Nat → Int32) (c_near : Nat → Int32) : Option ((Int32 × (Nat → Int32)) ⊕ (Nat → Int32)) :=
  some (.inl (n3 + 1, c_w))
def f_Y8_gives_L35_J115 (n1 : Int32) (n2 : Int32) (n3 : Int32) (n4 : Int32) (t0 : Int32) (c_w : Nat → Int32) (c_near : Nat → Int32) : Option ((Int32 × (Nat → Int32)) ⊕ (Nat → Int32)) :=
  (if t0 ≤ 0 then f_Y8_gives_L35_J200 n1 n2 n3 c_w c_near
  else bnd1 (f_Y8_takes n4 t0 c_w) (fun o18 =>
  (gd (111 + n4) 2450 (gd (159 + n4) 2450 (gd (383 + n1) 2450 (gd (383 + n1) 2450 (gd ((503 + (24 * n1)) + n2) 2450 (gd ((503 + (24 * n1)) + n2) 2450 (gd 10 2450 (gd 10 2450 (f_Y8_gives_L35_J200 n1 n2 n3 (upd (upd (upd (upd (upd o18 (111 + n4).toNatClampNeg 2) (159 + n4).toNatClampNeg 1) (383 + n1).toNatClampNeg (((upd (upd o18 (111 + n4).toNatClampNeg 2) (159 + n4).toNatClampNeg 1) (383 + n1).toNatClampNeg) - t0)) ((503 + (24 * n1)) + n2).toNatClampNeg (((upd (upd (upd o18 (111 + n4).toNatClampNeg 2) (159 + n4).toNatClampNeg 1) (383 + n1).toNatClampNeg (((upd (upd o18 (111 + n4).toNatClampNeg 2) (159 + n4).toNatClampNeg 1) (383 + n1).toNatClampNeg) - t0)) ((503 + (24 * n1)) + n2).toNatClampNeg) + t0)) (10 : Int32).toNatClampNeg (((upd (upd (upd (upd o18 (111 + n4).toNatClampNeg 2) (159 + n4).toNatClampNeg 1) (383 + n1).toNatClampNeg (((upd (upd o18 (111 + n4).toNatClampNeg 2) (159 + n4).toNatClampNeg 1) (383 + n1).toNatClampNeg) - t0)) ((503 + (24 * n1)) + n2).toNatClampNeg (((upd (upd (upd o18 (111 + n4).toNatClampNeg 2) (159 + n4).toNatClampNeg 1) (383 + n1).toNatClampNeg (((upd (upd o18 (111 + n4).toNatClampNeg 2) (159 + n4).toNatClampNeg 1) (383 + n1).toNatClampNeg) - t0)) ((503 + (24 * n1)) + n2).toNatClampNeg) + t0)) (10 : Int32).toNatClampNeg) + t0)) c_near)))))))))))
def f_Y8_gives_L35 (n1 : Int32) (n2 : Int32) (c_near : Nat → Int32) (n3 : Int32) (c_w : Nat → Int32) : Option ((Int32 × (Nat → Int32)) ⊕ (Nat → Int32)) :=
  bnd1 (f_Y8_places c_w) (fun r5 =>
  ((if r5 ≤ n3 then some (.inr c_w)
  else gd n3 48 (gd (15 + (c_near n3.toNatClampNeg)) 2450 ((if (c_w (15 + (c_near n3.toNatClampNeg)).toNatClampNeg) = n2 then gd (63 + (c_near n3.toNatClampNeg)) 2450 (gd (383 + n1) 2450 ((if (c_w (383 + n1).toNatClampNeg) ≤ (c_w (63 + (c_near n3.toNatClampNeg)).toNatClampNeg) then gd (383 + n1) 2450 (f_Y8_gives_L35_J115 n1 n2 n3 (c_near n3.toNatClampNeg) (c_w (383 + n1).toNatClampNeg) c_w c_near)
  else gd (63 + (c_near n3.toNatClampNeg)) 2450 (f_Y8_gives_L35_J115 n1 n2 n3 (c_near n3.toNatClampNeg) (c_w (63 + (c_near n3.toNatClampNeg)).toNatClampNeg) c_w c_near))))
  else f_Y8_gives_L35_J115 n1 n2 n3 (c_near n3.toNatClampNeg) 0 c_w c_near))))))
def f_Y8_gives (v1 : Int32) (v2 : Int32) (c_w : Nat → Int32) (c_near : Nat → Int32) : Option ((Nat → Int32)) :=
  gd 8 2450 (gd 8 2450 (gd 8 2450 (gd ((1463 + (24 * v1)) + v2) 2450 ((bnd1 (loop (fun z => f_Y8_gives_L35 v1 v2 c_near z.1 z.2) fu (0, upd (upd c_w (8 : Int32).toNatClampNeg ((c_w (8 : Int32).toNatClampNeg) + 1)) ((1463 + (24 * v1)) + v2).toNatClampNeg ((upd c_w (8 : Int32).toNatClampNeg ((c_w (8 : Int32).toNatClampNeg) + 1)) (8 : Int32).toNatClampNeg))) fun c29 =>
  some c29)))))
def f_Y8_givesWave_L2 (c_near : Nat → Int32) (c_isDone : Nat → Int32) (n1 : Int32) (c_w : Nat → Int32) : Option ((Int32 × (Nat → Int32)) ⊕ (Nat → Int32)) :=
  (if 48 ≤ n1 then some (.inr c_w)
  else gd (159 + n1) 2450 (some (.inl (n1 + 1, upd c_w (159 + n1).toNatClampNeg 0))))
def f_Y8_givesWave_L27 (c_w : Nat → Int32) (c_near : Nat → Int32) (n1 : Int32) (c_isDone : Nat → Int32) : Option ((Int32 × (Nat → Int32)) ⊕ (Nat → Int32)) :=
  (if 40 ≤ n1 then some (.inr c_isDone)
  else gd n1 40 (some (.inl (n1 + 1, upd c_isDone n1.toNatClampNeg (vp_nar .boolean 0)))))
def f_Y8_givesWave_L69 (n1 : Int32) (c_near : Nat → Int32) (c_isDone : Nat → Int32) (n2 : Int32) (c_w : Nat → Int32) : Option ((Int32 × (Nat → Int32)) ⊕ (Nat → Int32)) :=
  (if n2 = (-1) then some (.inr c_w)
  else gd (383 + n1) 2450 ((if (c_w (383 + n1).toNatClampNeg) ≤ 0 then some (.inr c_w)
  else bnd1 (f_Y8_gives n1 n2 c_w c_near) (fun o20 =>
  (bnd1 (f_Y8_nextLot n1 o20) (fun r21 =>
  (some (.inl (r21, o20)))))))))
def f_Y8_givesWave_L51 (c_near : Nat → Int32) (n1 : Int32) (c_w : Nat → Int32) (c_isDone : Nat → Int32) : Option ((Int32 × (Nat → Int32) × (Nat → Int32)) ⊕ ((Nat → Int32) × (Nat → Int32))) :=
  (if n1 = (-1) then some (.inr (c_w, c_isDone))
  else gd n1 40 (bnd1 (f_Y8_nextLot n1 c_w) (fun r13 =>
  ((bnd1 (loop (fun z => f_Y8_givesWave_L69 n1 c_near (upd c_isDone n1.toNatClampNeg (vp_nar .boolean 1)) z.1 z.2) fu (r13, c_w)) fun c24 =>
  bnd1 (f_Y8_nextOrder c24 (upd c_isDone n1.toNatClampNeg (vp_nar .boolean 1))) (fun r25 =>
  (some (.inl (r25, c24, upd c_isDone n1.toNatClampNeg (vp_nar .boolean 1))))))))))
def f_Y8_givesWave (c_w : Nat → Int32) (c_near : Nat → Int32) (c_isDone : Nat → Int32) : Option ((Nat → Int32) × (Nat → Int32)) :=
  (bnd1 (loop (fun z => f_Y8_givesWave_L2 c_near c_isDone z.1 z.2) fu (0, c_w)) fun c4 =>
  (bnd1 (loop (fun z => f_Y8_givesWave_L27 c4 c_near z.1 z.2) fu (0, c_isDone)) fun c8 =>
  bnd1 (f_Y8_nextOrder c4 c8) (fun r9 =>
  ((bnd2 (loop (fun z => f_Y8_givesWave_L51 c_near z.1 z.2.1 z.2.2) fu (r9, c4, c8)) fun c28 c29 =>
  some (c28, c29))))))
def f_Y8_wave (c_raised : Int32) (c_undos : Int32) (c_eldest : Int32) (c_w : Nat → Int32) (c_kept : Nat → Int32) (c_near : Nat → Int32) (c_isDone : Nat → Int32) : Option (Int32 × Int32 × Int32 × Int32 × (Nat → Int32) × (Nat → Int32) × (Nat → Int32)) :=
  bnd3 (f_Y8_keep c_undos c_eldest c_w c_kept) (fun o3 o4 o5 =>
  (gd 10 2450 (bnd2 (f_Y8_givesWave c_w c_near c_isDone) (fun o9 o10 =>
  (gd 10 2450 (some ((o9 (10 : Int32).toNatClampNeg) - (c_w (10 : Int32).toNatClampNeg), 0, o3, o4, o9, o5, o10)))))))
def f_Y8_openOf_L4_J44 (n1 : Int32) (n3 : Int32) (t0 : Int32) (t1 : Int32) (c_w : Nat → Int32) : Option ((Int32 × Int32) ⊕ Int32) :=
  some (.inl (t0 + t1, n3 + 1))
def f_Y8_openOf_L4 (n1 : Int32) (c_w : Nat → Int32) (n2 : Int32) (n3 : Int32) : Option ((Int32 × Int32) ⊕ Int32) :=
  gd 7 2450 ((if (c_w (7 : Int32).toNatClampNeg) ≤ n3 then some (.inr n2)
  else gd (343 + n3) 2450 ((if (c_w (343 + n3).toNatClampNeg) = n1 then gd (383 + n3) 2450 (f_Y8_openOf_L4_J44 n1 n3 n2 (c_w (383 + n3).toNatClampNeg) c_w)
  else f_Y8_openOf_L4_J44 n1 n3 n2 0 c_w))))
def f_Y8_openOf (v1 : Int32) (c_w : Nat → Int32) : Option (Int32) :=
  (bnd1 (loop (fun z => f_Y8_openOf_L4 v1 c_w z.1 z.2) fu (0, 0)) fun m7 =>
  some m7)
def f_Y8_leftOpen (v1 : Int32) (c_w : Nat → Int32) (c_copy : Nat → Int32) (c_near : Nat → Int32) (c_isDone : Nat → Int32) : Option (Int32 × (Nat → Int32) × (Nat → Int32) × (Nat → Int32)) :=
  bnd1 (f_Y8_copies c_w c_copy) (fun o3 =>
  (bnd2 (f_Y8_givesWave c_w c_near c_isDone) (fun o6 o7 =>
  (bnd1 (f_Y8_openOf v1 o6) (fun r8 =>
  (bnd1 (f_Y8_returns o6 o3) (fun o12 =>
  (some (r8, o12, o3, o7)))))))))
def f_Y8_unfilled (v1 : Int32) (c_raised : Int32) (c_w : Nat → Int32) (c_copy : Nat → Int32) (c_near : Nat → Int32) (c_isDone : Nat → Int32) : Option (Int32 × Int32 × (Nat → Int32) × (Nat → Int32) × (Nat → Int32)) :=
  bnd1 (f_Y8_isProduct v1 c_w) (fun r1 =>
  (bnd2 (f_Y8_can r1 1 c_raised) (fun r3 o5 =>
  ((if r3 = 0 then some (0, o5, c_w, c_copy, c_isDone)
  else bnd4 (f_Y8_leftOpen v1 c_w c_copy c_near c_isDone) (fun r7 o9 o10 o11 =>
  (some (r7, o5, o9, o10, o11))))))))
def f_Y8_differenceAt_L5_J63 (n1 : Int32) (n2 : Int32) (n4 : Int32) (t0 : Int32) (t1 : Int32) (c_w : Nat → Int32) : Option ((Int32 × Int32) ⊕ Int32) :=
  some (.inl (t0 + t1, n4 + 1))
def f_Y8_differenceAt_L5_J62 (n1 : Int32) (n2 : Int32) (n4 : Int32) (t0 : Int32) (c_w : Nat → Int32) : Option ((Int32 × Int32) ⊕ Int32) :=
  f_Y8_differenceAt_L5_J63 n1 n2 n4 t0 0 c_w
def f_Y8_differenceAt_L5 (n1 : Int32) (n2 : Int32) (c_w : Nat → Int32) (n3 : Int32) (n4 : Int32) : Option ((Int32 × Int32) ⊕ Int32) :=
  gd 7 2450 ((if (c_w (7 : Int32).toNatClampNeg) ≤ n4 then some (.inr n3)
  else gd (343 + n4) 2450 ((if (c_w (343 + n4).toNatClampNeg) = n1 then gd (463 + n4) 2450 ((if (c_w (463 + n4).toNatClampNeg) < n2 then f_Y8_differenceAt_L5_J62 n1 n2 n4 n3 c_w
  else gd (383 + n4) 2450 (f_Y8_differenceAt_L5_J63 n1 n2 n4 n3 (c_w (383 + n4).toNatClampNeg) c_w)))
  else f_Y8_differenceAt_L5_J62 n1 n2 n4 n3 c_w))))
def f_Y8_differenceAt_L74_J141 (n1 : Int32) (n2 : Int32) (n4 : Int32) (t0 : Int32) (t1 : Int32) (c_w : Nat → Int32) : Option ((Int32 × Int32) ⊕ Int32) :=
  some (.inl (t0 - t1, n4 + 1))
def f_Y8_differenceAt_L74_J140 (n1 : Int32) (n2 : Int32) (n4 : Int32) (t0 : Int32) (c_w : Nat → Int32) : Option ((Int32 × Int32) ⊕ Int32) :=
  f_Y8_differenceAt_L74_J141 n1 n2 n4 t0 0 c_w
def f_Y8_differenceAt_L74 (n1 : Int32) (n2 : Int32) (c_w : Nat → Int32) (n3 : Int32) (n4 : Int32) : Option ((Int32 × Int32) ⊕ Int32) :=
  gd 6 2450 ((if (c_w (6 : Int32).toNatClampNeg) ≤ n4 then some (.inr n3)
  else gd (207 + n4) 2450 ((if (c_w (207 + n4).toNatClampNeg) = n1 then gd (279 + n4) 2450 ((if (c_w (279 + n4).toNatClampNeg) = 0 then gd (231 + n4) 2450 ((if (c_w (231 + n4).toNatClampNeg) < n2 then f_Y8_differenceAt_L74_J140 n1 n2 n4 n3 c_w
  else bnd1 (f_Y8_onHand n4 c_w) (fun r18 =>
  (f_Y8_differenceAt_L74_J141 n1 n2 n4 n3 r18 c_w))))
  else f_Y8_differenceAt_L74_J140 n1 n2 n4 n3 c_w))
  else f_Y8_differenceAt_L74_J140 n1 n2 n4 n3 c_w))))
def f_Y8_differenceAt (v1 : Int32) (v2 : Int32) (c_w : Nat → Int32) : Option (Int32) :=
  (bnd1 (loop (fun z => f_Y8_differenceAt_L5 v1 v2 c_w z.1 z.2) fu (0, 0)) fun m9 =>
  (bnd1 (loop (fun z => f_Y8_differenceAt_L74 v1 v2 c_w z.1 z.2) fu (m9, 0)) fun m21 =>
  some m21))
def f_Y8_proofDay_L43_J135 (n1 : Int32) (n2 : Int32) (n3 : Int32) (n4 : Int32) (c_raised : Int32) (c_w : Nat → Int32) (c_copy : Nat → Int32) (c_near : Nat → Int32) (c_isDone : Nat → Int32) : Option ((Int32 × Int32 × Int32) ⊕ Int32) :=
  some (.inl (n2, n3, n4 + 1))
def f_Y8_proofDay_L43_J129 (n1 : Int32) (n4 : Int32) (n5 : Int32) (n6 : Int32) (c_raised : Int32) (c_w : Nat → Int32) (c_copy : Nat → Int32) (c_near : Nat → Int32) (c_isDone : Nat → Int32) : Option ((Int32 × Int32 × Int32) ⊕ Int32) :=
  f_Y8_proofDay_L43_J135 n1 n5 n6 n4 c_raised c_w c_copy c_near c_isDone
def f_Y8_proofDay_L43 (n1 : Int32) (c_raised : Int32) (c_w : Nat → Int32) (c_copy : Nat → Int32) (c_near : Nat → Int32) (c_isDone : Nat → Int32) (n2 : Int32) (n3 : Int32) (n4 : Int32) : Option ((Int32 × Int32 × Int32) ⊕ Int32) :=
  gd 7 2450 ((if (c_w (7 : Int32).toNatClampNeg) ≤ n4 then some (.inr n2)
  else gd (343 + n4) 2450 ((if (c_w (343 + n4).toNatClampNeg) = n1 then gd (383 + n4) 2450 ((if (c_w (383 + n4).toNatClampNeg) ≤ 0 then f_Y8_proofDay_L43_J135 n1 n2 n3 n4 c_raised c_w c_copy c_near c_isDone
  else gd (463 + n4) 2450 (bnd1 (f_Y8_differenceAt n1 (c_w (463 + n4).toNatClampNeg) c_w) (fun r24 =>
  ((if n2 = (-1) then f_Y8_proofDay_L43_J129 n1 n4 (c_w (463 + n4).toNatClampNeg) r24 c_raised c_w c_copy c_near c_isDone
  else (if n3 < r24 then f_Y8_proofDay_L43_J129 n1 n4 (c_w (463 + n4).toNatClampNeg) r24 c_raised c_w c_copy c_near c_isDone
  else (if r24 = n3 then (if n2 ≤ (c_w (463 + n4).toNatClampNeg) then f_Y8_proofDay_L43_J135 n1 n2 n3 n4 c_raised c_w c_copy c_near c_isDone
  else f_Y8_proofDay_L43_J129 n1 n4 (c_w (463 + n4).toNatClampNeg) r24 c_raised c_w c_copy c_near c_isDone)
  else f_Y8_proofDay_L43_J135 n1 n2 n3 n4 c_raised c_w c_copy c_near c_isDone))))))))
  else f_Y8_proofDay_L43_J135 n1 n2 n3 n4 c_raised c_w c_copy c_near c_isDone))))
def f_Y8_proofDay_J27 (n1 : Int32) (t1 : Int32) (c_raised : Int32) (c_w : Nat → Int32) (c_copy : Nat → Int32) (c_near : Nat → Int32) (c_isDone : Nat → Int32) : Option (Int32 × Int32 × (Nat → Int32) × (Nat → Int32) × (Nat → Int32)) :=
  bnd2 (f_Y8_can t1 2 c_raised) (fun r13 o15 =>
  ((if r13 = 0 then some (0, o15, c_w, c_copy, c_isDone)
  else (bnd1 (loop (fun z => f_Y8_proofDay_L43 n1 o15 c_w c_copy c_near c_isDone z.1 z.2.1 z.2.2) fu ((-1), 0, 0)) fun m31 =>
  some (m31, o15, c_w, c_copy, c_isDone)))))
def f_Y8_proofDay (v1 : Int32) (c_raised : Int32) (c_w : Nat → Int32) (c_copy : Nat → Int32) (c_near : Nat → Int32) (c_isDone : Nat → Int32) : Option (Int32 × Int32 × (Nat → Int32) × (Nat → Int32) × (Nat → Int32)) :=
  bnd1 (f_Y8_isProduct v1 c_w) (fun r1 =>
  (bnd2 (f_Y8_can r1 1 c_raised) (fun r3 o5 =>
  ((if r3 = 0 then some (0, o5, c_w, c_copy, c_isDone)
  else bnd4 (f_Y8_leftOpen v1 c_w c_copy c_near c_isDone) (fun r7 o9 o10 o11 =>
  ((if r7 ≤ 0 then f_Y8_proofDay_J27 v1 0 o5 o9 o10 c_near o11
  else f_Y8_proofDay_J27 v1 1 o5 o9 o10 c_near o11))))))))
def f_Y8_difference (v1 : Int32) (v2 : Int32) (c_raised : Int32) (c_w : Nat → Int32) : Option (Int32 × Int32) :=
  bnd1 (f_Y8_isProduct v1 c_w) (fun r1 =>
  (bnd2 (f_Y8_can r1 1 c_raised) (fun r3 o5 =>
  ((if r3 = 0 then some (0, o5)
  else bnd1 (f_Y8_in v2 0 3000) (fun r7 =>
  (bnd2 (f_Y8_can r7 2 o5) (fun r9 o11 =>
  ((if r9 = 0 then some (0, o11)
  else bnd1 (f_Y8_differenceAt v1 v2 c_w) (fun r13 =>
  (some (r13, o11)))))))))))))
def f_Y8_picks_L4 (c_w : Nat → Int32) (n1 : Int32) (n2 : Int32) : Option ((Int32 × Int32) ⊕ Int32) :=
  bnd1 (f_Y8_places c_w) (fun r1 =>
  ((if r1 ≤ n2 then some (.inr n1)
  else gd (159 + n2) 2450 (some (.inl (n1 + (c_w (159 + n2).toNatClampNeg), n2 + 1))))))
def f_Y8_picks (c_w : Nat → Int32) : Option (Int32) :=
  (bnd1 (loop (fun z => f_Y8_picks_L4 c_w z.1 z.2) fu (0, 0)) fun m6 =>
  some m6)
def f_Y8_pickCount (c_raised : Int32) (c_w : Nat → Int32) : Option (Int32 × Int32) :=
  bnd1 (f_Y8_picks c_w) (fun r1 =>
  (some (r1, 0)))
def f_Y8_deepest_L4_J53 (n1 : Int32) (n3 : Int32) (t0 : Int32) (c_w : Nat → Int32) : Option ((Int32 × Int32) ⊕ Int32) :=
  some (.inl (t0, n3 + 1))
def f_Y8_deepest_L4_J52 (n1 : Int32) (n2 : Int32) (n3 : Int32) (c_w : Nat → Int32) : Option ((Int32 × Int32) ⊕ Int32) :=
  f_Y8_deepest_L4_J53 n1 n3 n2 c_w
def f_Y8_deepest_L4 (n1 : Int32) (c_w : Nat → Int32) (n2 : Int32) (n3 : Int32) : Option ((Int32 × Int32) ⊕ Int32) :=
  bnd1 (f_Y8_places c_w) (fun r1 =>
  ((if r1 ≤ n3 then some (.inr n2)
  else gd (159 + n3) 2450 ((if (c_w (159 + n3).toNatClampNeg) = 1 then bnd1 (f_Y8_laneOf n3 c_w) (fun r6 =>
  ((if r6 = n1 then bnd1 (f_Y8_positionOf n3 c_w) (fun r9 =>
  ((if r9 ≤ n2 then f_Y8_deepest_L4_J52 n1 n2 n3 c_w
  else bnd1 (f_Y8_positionOf n3 c_w) (fun r12 =>
  (f_Y8_deepest_L4_J53 n1 n3 r12 c_w)))))
  else f_Y8_deepest_L4_J52 n1 n2 n3 c_w)))
  else f_Y8_deepest_L4_J52 n1 n2 n3 c_w)))))
def f_Y8_deepest (v1 : Int32) (c_w : Nat → Int32) : Option (Int32) :=
  (bnd1 (loop (fun z => f_Y8_deepest_L4 v1 c_w z.1 z.2) fu (0, 0)) fun m15 =>
  some m15)
def f_Y8_byRule_L10_J53 (n1 : Int32) (n2 : Int32) (n4 : Int32) (n5 : Int32) (t0 : Int32) (c_w : Nat → Int32) : Option ((Int32 × Int32 × Int32 × Int32) ⊕ (Int32 × Int32 × Int32)) :=
  bnd1 (f_Y8_deepest n5 c_w) (fun r9 =>
  (some (.inl (n2, t0, n4 + (2 * r9), n5 + 1))))
def f_Y8_byRule_L10_J36 (n1 : Int32) (n3 : Int32) (n4 : Int32) (n5 : Int32) (t0 : Int32) (t1 : Int32) (c_w : Nat → Int32) : Option ((Int32 × Int32 × Int32 × Int32) ⊕ (Int32 × Int32 × Int32)) :=
  bnd1 (f_Y8_deepest n5 c_w) (fun r6 =>
  ((if r6 ≤ 0 then f_Y8_byRule_L10_J53 n1 (t0 + t1) n4 n5 n3 c_w
  else f_Y8_byRule_L10_J53 n1 (t0 + t1) n4 n5 n5 c_w)))
def f_Y8_byRule_L10 (n1 : Int32) (c_w : Nat → Int32) (n2 : Int32) (n3 : Int32) (n4 : Int32) (n5 : Int32) : Option ((Int32 × Int32 × Int32 × Int32) ⊕ (Int32 × Int32 × Int32)) :=
  gd 1 2450 ((if (c_w (1 : Int32).toNatClampNeg) ≤ n5 then some (.inr (n2, n3, n4))
  else bnd1 (f_Y8_deepest n5 c_w) (fun r3 =>
  ((if r3 ≤ 0 then f_Y8_byRule_L10_J36 n1 n3 n4 n5 n2 0 c_w
  else f_Y8_byRule_L10_J36 n1 n3 n4 n5 n2 1 c_w)))))
def f_Y8_byRule_J134 (t0 : Int32) (t1 : Int32) (c_w : Nat → Int32) : Option (Int32) :=
  some (t0 + t1)
def f_Y8_byRule (v1 : Int32) (c_w : Nat → Int32) : Option (Int32) :=
  (bnd3 (loop (fun z => f_Y8_byRule_L10 v1 c_w z.1 z.2.1 z.2.2.1 z.2.2.2) fu (0, 0, 0, 0)) fun m12 m13 m14 =>
  gd 2 2450 (gd 4 2450 ((if v1 = 0 then some (((2 * (c_w (4 : Int32).toNatClampNeg)) * m13) + m14)
  else (if (m12 - m12 / 2 * 2) = 0 then f_Y8_byRule_J134 ((2 * (c_w (4 : Int32).toNatClampNeg)) * m13) (m12 * ((c_w (2 : Int32).toNatClampNeg) + 1)) c_w
  else bnd1 (f_Y8_deepest m13 c_w) (fun r19 =>
  (f_Y8_byRule_J134 ((2 * (c_w (4 : Int32).toNatClampNeg)) * m13) (((m12 - 1) * ((c_w (2 : Int32).toNatClampNeg) + 1)) + (2 * r19)) c_w)))))))
def f_Y8_between_J144 (t0 : Int32) (t1 : Int32) (c_w : Nat → Int32) (c_lane : Nat → Int32) (c_position : Nat → Int32) : Option (Int32) :=
  some (t0 + t1)
def f_Y8_between_J119 (n6 : Int32) (n7 : Int32) (t0 : Int32) (c_w : Nat → Int32) (c_lane : Nat → Int32) (c_position : Nat → Int32) : Option (Int32) :=
  gd 4 2450 ((if n7 ≤ n6 then f_Y8_between_J144 ((c_w (4 : Int32).toNatClampNeg) * t0) n7 c_w c_lane c_position
  else f_Y8_between_J144 ((c_w (4 : Int32).toNatClampNeg) * t0) n6 c_w c_lane c_position))
def f_Y8_between (v1 : Int32) (v2 : Int32) (c_w : Nat → Int32) (c_lane : Nat → Int32) (c_position : Nat → Int32) : Option (Int32) :=
  gd v1 11 (gd v2 11 (gd v1 11 (gd v2 11 ((if (c_lane v1.toNatClampNeg) = (c_lane v2.toNatClampNeg) then (if (c_position v2.toNatClampNeg) ≤ (c_position v1.toNatClampNeg) then some ((c_position v1.toNatClampNeg) - (c_position v2.toNatClampNeg))
  else some ((c_position v2.toNatClampNeg) - (c_position v1.toNatClampNeg)))
  else gd 2 2450 (gd v1 11 (gd v2 11 ((if (c_lane v2.toNatClampNeg) ≤ (c_lane v1.toNatClampNeg) then gd v1 11 (gd v2 11 (f_Y8_between_J119 ((c_position v1.toNatClampNeg) + (c_position v2.toNatClampNeg)) (((2 * ((c_w (2 : Int32).toNatClampNeg) + 1)) - (c_position v1.toNatClampNeg)) - (c_position v2.toNatClampNeg)) ((c_lane v1.toNatClampNeg) - (c_lane v2.toNatClampNeg)) c_w c_lane c_position))
  else gd v2 11 (gd v1 11 (f_Y8_between_J119 ((c_position v1.toNatClampNeg) + (c_position v2.toNatClampNeg)) (((2 * ((c_w (2 : Int32).toNatClampNeg) + 1)) - (c_position v1.toNatClampNeg)) - (c_position v2.toNatClampNeg)) ((c_lane v2.toNatClampNeg) - (c_lane v1.toNatClampNeg)) c_w c_lane c_position)))))))))))
def f_Y8_wayTo_L41_J100 (n2 : Int32) (n3 : Int32) (n4 : Int32) (n6 : Int32) (t0 : Int32) (c_w : Nat → Int32) (c_lane : Nat → Int32) (c_position : Nat → Int32) (c_least : Nat → Int32) : Option ((Int32 × Int32) ⊕ Int32) :=
  some (.inl (t0, n6 + 1))
def f_Y8_wayTo_L41_J84 (n2 : Int32) (n3 : Int32) (n4 : Int32) (n5 : Int32) (n6 : Int32) (t0 : Int32) (c_w : Nat → Int32) (c_lane : Nat → Int32) (c_position : Nat → Int32) (c_least : Nat → Int32) : Option ((Int32 × Int32) ⊕ Int32) :=
  (if n5 ≤ t0 then f_Y8_wayTo_L41_J100 n2 n3 n4 n6 n5 c_w c_lane c_position c_least
  else f_Y8_wayTo_L41_J100 n2 n3 n4 n6 t0 c_w c_lane c_position c_least)
def f_Y8_wayTo_L41 (n2 : Int32) (n3 : Int32) (n4 : Int32) (c_w : Nat → Int32) (c_lane : Nat → Int32) (c_position : Nat → Int32) (c_least : Nat → Int32) (n5 : Int32) (n6 : Int32) : Option ((Int32 × Int32) ⊕ Int32) :=
  (if n3 ≤ n6 then some (.inr n5)
  else (if ((n4 >>> (n6 &&& 31)) &&& 1) = 1 then gd ((10 * n4) + n6) 10240 (bnd1 (f_Y8_between n6 n2 c_w c_lane c_position) (fun r7 =>
  (f_Y8_wayTo_L41_J84 n2 n3 n4 n5 n6 ((c_least ((10 * n4) + n6).toNatClampNeg) + r7) c_w c_lane c_position c_least)))
  else f_Y8_wayTo_L41_J84 n2 n3 n4 n5 n6 1000000000 c_w c_lane c_position c_least))
def f_Y8_wayTo_J36 (n2 : Int32) (n3 : Int32) (n4 : Int32) (t0 : Int32) (c_w : Nat → Int32) (c_lane : Nat → Int32) (c_position : Nat → Int32) (c_least : Nat → Int32) : Option (Int32) :=
  (bnd1 (loop (fun z => f_Y8_wayTo_L41 n2 n3 n4 c_w c_lane c_position c_least z.1 z.2) fu (t0, 0)) fun m10 =>
  some m10)
def f_Y8_wayTo (v1 : Int32) (v2 : Int32) (v3 : Int32) (c_w : Nat → Int32) (c_lane : Nat → Int32) (c_position : Nat → Int32) (c_least : Nat → Int32) : Option (Int32) :=
  (if ((v1 >>> (v2 &&& 31)) &&& 1) = 0 then some 1000000000
  else (if (v1 &&& ((1 <<< (v2 &&& 31)) ^^^ (-1))) = 0 then bnd1 (f_Y8_between v3 v2 c_w c_lane c_position) (fun r11 =>
  (f_Y8_wayTo_J36 v2 v3 (v1 &&& ((1 <<< (v2 &&& 31)) ^^^ (-1))) r11 c_w c_lane c_position c_least))
  else f_Y8_wayTo_J36 v2 v3 (v1 &&& ((1 <<< (v2 &&& 31)) ^^^ (-1))) 1000000000 c_w c_lane c_position c_least))
def f_Y8_leastWay_L4_J51 (n1 : Int32) (n2 : Int32) (c_w : Nat → Int32) (c_lane : Nat → Int32) (c_position : Nat → Int32) (c_least : Nat → Int32) : Option ((Int32 × Int32 × (Nat → Int32) × (Nat → Int32)) ⊕ (Int32 × (Nat → Int32) × (Nat → Int32))) :=
  some (.inl (n1, n2 + 1, c_lane, c_position))
def f_Y8_leastWay_L4 (c_w : Nat → Int32) (c_least : Nat → Int32) (n1 : Int32) (n2 : Int32) (c_lane : Nat → Int32) (c_position : Nat → Int32) : Option ((Int32 × Int32 × (Nat → Int32) × (Nat → Int32)) ⊕ (Int32 × (Nat → Int32) × (Nat → Int32))) :=
  bnd1 (f_Y8_places c_w) (fun r1 =>
  ((if r1 ≤ n2 then some (.inr (n1, c_lane, c_position))
  else gd (159 + n2) 2450 ((if (c_w (159 + n2).toNatClampNeg) = 1 then bnd1 (f_Y8_laneOf n2 c_w) (fun r6 =>
  (gd n1 11 (bnd1 (f_Y8_positionOf n2 c_w) (fun r9 =>
  (gd n1 11 (f_Y8_leastWay_L4_J51 (n1 + 1) n2 c_w (upd c_lane n1.toNatClampNeg r6) (upd c_position n1.toNatClampNeg r9) c_least))))))
  else f_Y8_leastWay_L4_J51 n1 n2 c_w c_lane c_position c_least)))))
def f_Y8_leastWay_L93 (n1 : Int32) (n2 : Int32) (n3 : Int32) (c_w : Nat → Int32) (c_lane : Nat → Int32) (c_position : Nat → Int32) (n4 : Int32) (c_least : Nat → Int32) : Option ((Int32 × (Nat → Int32)) ⊕ (Nat → Int32)) :=
  (if n1 ≤ n4 then some (.inr c_least)
  else bnd1 (f_Y8_wayTo n3 n4 n1 c_w c_lane c_position c_least) (fun r21 =>
  (gd ((10 * n3) + n4) 10240 (some (.inl (n4 + 1, upd c_least ((10 * n3) + n4).toNatClampNeg r21))))))
def f_Y8_leastWay_L85 (n1 : Int32) (n2 : Int32) (c_w : Nat → Int32) (c_lane : Nat → Int32) (c_position : Nat → Int32) (n3 : Int32) (c_least : Nat → Int32) : Option ((Int32 × (Nat → Int32)) ⊕ (Nat → Int32)) :=
  (if n2 < n3 then some (.inr c_least)
  else (bnd1 (loop (fun z => f_Y8_leastWay_L93 n1 n2 n3 c_w c_lane c_position z.1 z.2) fu (0, c_least)) fun c25 =>
  some (.inl (n3 + 1, c25))))
def f_Y8_leastWay_L137_J177 (n1 : Int32) (n2 : Int32) (n4 : Int32) (t0 : Int32) (c_w : Nat → Int32) (c_lane : Nat → Int32) (c_position : Nat → Int32) (c_least : Nat → Int32) : Option ((Int32 × Int32) ⊕ Int32) :=
  some (.inl (t0, n4 + 1))
def f_Y8_leastWay_L137 (n1 : Int32) (n2 : Int32) (c_w : Nat → Int32) (c_lane : Nat → Int32) (c_position : Nat → Int32) (c_least : Nat → Int32) (n3 : Int32) (n4 : Int32) : Option ((Int32 × Int32) ⊕ Int32) :=
  (if n1 ≤ n4 then some (.inr n3)
  else gd ((10 * n2) + n4) 10240 (bnd1 (f_Y8_between n4 n1 c_w c_lane c_position) (fun r30 =>
  ((if n3 ≤ ((c_least ((10 * n2) + n4).toNatClampNeg) + r30) then f_Y8_leastWay_L137_J177 n1 n2 n4 n3 c_w c_lane c_position c_least
  else f_Y8_leastWay_L137_J177 n1 n2 n4 ((c_least ((10 * n2) + n4).toNatClampNeg) + r30) c_w c_lane c_position c_least)))))
def f_Y8_leastWay (c_w : Nat → Int32) (c_lane : Nat → Int32) (c_position : Nat → Int32) (c_least : Nat → Int32) : Option (Int32 × (Nat → Int32) × (Nat → Int32) × (Nat → Int32)) :=
  (bnd3 (loop (fun z => f_Y8_leastWay_L4 c_w c_least z.1 z.2.1 z.2.2.1 z.2.2.2) fu (0, 0, c_lane, c_position)) fun m13 c14 c15 =>
  gd m13 11 (gd m13 11 ((if m13 = 0 then some (0, upd c14 m13.toNatClampNeg 0, upd c15 m13.toNatClampNeg 0, c_least)
  else (bnd1 (loop (fun z => f_Y8_leastWay_L85 m13 ((1 <<< (m13 &&& 31)) - 1) c_w (upd c14 m13.toNatClampNeg 0) (upd c15 m13.toNatClampNeg 0) z.1 z.2) fu (1, c_least)) fun c27 =>
  (bnd1 (loop (fun z => f_Y8_leastWay_L137 m13 ((1 <<< (m13 &&& 31)) - 1) c_w (upd c14 m13.toNatClampNeg 0) (upd c15 m13.toNatClampNeg 0) c27 z.1 z.2) fu (1000000000, 0)) fun m34 =>
  some (m34, upd c14 m13.toNatClampNeg 0, upd c15 m13.toNatClampNeg 0, c27)))))))
def f_Y8_pickLength_J76 (t1 : Int32) (c_raised : Int32) (c_w : Nat → Int32) (c_lane : Nat → Int32) (c_position : Nat → Int32) (c_least : Nat → Int32) : Option (Int32 × Int32 × (Nat → Int32) × (Nat → Int32) × (Nat → Int32)) :=
  bnd1 (f_Y8_byRule t1 c_w) (fun r17 =>
  (some (r17, c_raised, c_lane, c_position, c_least)))
def f_Y8_pickLength_J34 (n1 : Int32) (t1 : Int32) (c_raised : Int32) (c_w : Nat → Int32) (c_lane : Nat → Int32) (c_position : Nat → Int32) (c_least : Nat → Int32) : Option (Int32 × Int32 × (Nat → Int32) × (Nat → Int32) × (Nat → Int32)) :=
  bnd2 (f_Y8_can t1 2 c_raised) (fun r8 o10 =>
  ((if r8 = 0 then some (0, o10, c_lane, c_position, c_least)
  else bnd1 (f_Y8_picks c_w) (fun r12 =>
  ((if r12 = 0 then some (0, o10, c_lane, c_position, c_least)
  else (if n1 = 2 then bnd4 (f_Y8_leastWay c_w c_lane c_position c_least) (fun r19 o21 o22 o23 =>
  (some (r19, o10, o21, o22, o23)))
  else (if n1 = 0 then f_Y8_pickLength_J76 1 o10 c_w c_lane c_position c_least
  else f_Y8_pickLength_J76 0 o10 c_w c_lane c_position c_least))))))))
def f_Y8_pickLength_J29 (n1 : Int32) (c_raised : Int32) (c_w : Nat → Int32) (c_lane : Nat → Int32) (c_position : Nat → Int32) (c_least : Nat → Int32) : Option (Int32 × Int32 × (Nat → Int32) × (Nat → Int32) × (Nat → Int32)) :=
  f_Y8_pickLength_J34 n1 1 c_raised c_w c_lane c_position c_least
def f_Y8_pickLength (v1 : Int32) (c_raised : Int32) (c_w : Nat → Int32) (c_lane : Nat → Int32) (c_position : Nat → Int32) (c_least : Nat → Int32) : Option (Int32 × Int32 × (Nat → Int32) × (Nat → Int32) × (Nat → Int32)) :=
  bnd1 (f_Y8_in v1 0 2) (fun r1 =>
  (bnd2 (f_Y8_can r1 1 c_raised) (fun r3 o5 =>
  ((if r3 = 0 then some (0, o5, c_lane, c_position, c_least)
  else (if v1 = 2 then bnd1 (f_Y8_picks c_w) (fun r24 =>
  ((if 10 < r24 then f_Y8_pickLength_J34 v1 0 o5 c_w c_lane c_position c_least
  else f_Y8_pickLength_J29 v1 o5 c_w c_lane c_position c_least)))
  else f_Y8_pickLength_J29 v1 o5 c_w c_lane c_position c_least))))))
def f_Y8_addItem_J34 (n1 : Int32) (t1 : Int32) (c_raised : Int32) (c_undos : Int32) (c_eldest : Int32) (c_w : Nat → Int32) (c_kept : Nat → Int32) : Option (Int32 × Int32 × Int32 × Int32 × (Nat → Int32) × (Nat → Int32)) :=
  bnd2 (f_Y8_can t1 2 c_raised) (fun r9 o11 =>
  ((if r9 = 0 then some (0, o11, c_undos, c_eldest, c_w, c_kept)
  else bnd3 (f_Y8_keep c_undos c_eldest c_w c_kept) (fun o15 o16 o17 =>
  (gd 2423 2450 (gd (2424 + (c_w (2423 : Int32).toNatClampNeg)) 2450 (gd 2423 2450 (gd 2423 2450 (gd 2423 2450 (some ((upd (upd c_w (2424 + (c_w (2423 : Int32).toNatClampNeg)).toNatClampNeg n1) (2423 : Int32).toNatClampNeg (((upd c_w (2424 + (c_w (2423 : Int32).toNatClampNeg)).toNatClampNeg n1) (2423 : Int32).toNatClampNeg) + 1)) (2423 : Int32).toNatClampNeg, o11, o15, o16, upd (upd c_w (2424 + (c_w (2423 : Int32).toNatClampNeg)).toNatClampNeg n1) (2423 : Int32).toNatClampNeg (((upd c_w (2424 + (c_w (2423 : Int32).toNatClampNeg)).toNatClampNeg n1) (2423 : Int32).toNatClampNeg) + 1), o17)))))))))))
def f_Y8_addItem (v1 : Int32) (c_raised : Int32) (c_undos : Int32) (c_eldest : Int32) (c_w : Nat → Int32) (c_kept : Nat → Int32) : Option (Int32 × Int32 × Int32 × Int32 × (Nat → Int32) × (Nat → Int32)) :=
  bnd1 (f_Y8_in v1 1 20) (fun r1 =>
  (bnd2 (f_Y8_can r1 1 c_raised) (fun r3 o5 =>
  ((if r3 = 0 then some (0, o5, c_undos, c_eldest, c_w, c_kept)
  else gd 2423 2450 ((if 8 ≤ (c_w (2423 : Int32).toNatClampNeg) then f_Y8_addItem_J34 v1 0 o5 c_undos c_eldest c_w c_kept
  else f_Y8_addItem_J34 v1 1 o5 c_undos c_eldest c_w c_kept)))))))
def f_Y8_clearItems (c_raised : Int32) (c_undos : Int32) (c_eldest : Int32) (c_w : Nat → Int32) (c_kept : Nat → Int32) : Option (Int32 × Int32 × Int32 × Int32 × (Nat → Int32) × (Nat → Int32)) :=
  bnd3 (f_Y8_keep c_undos c_eldest c_w c_kept) (fun o3 o4 o5 =>
  (gd 2423 2450 (gd 2423 2450 (some (c_w (2423 : Int32).toNatClampNeg, 0, o3, o4, upd c_w (2423 : Int32).toNatClampNeg 0, o5)))))
def f_Y8_sizeOf_L4_J40 (n1 : Int32) (n3 : Int32) (t0 : Int32) (t1 : Int32) (c_w : Nat → Int32) : Option ((Int32 × Int32) ⊕ Int32) :=
  some (.inl (t0 + t1, n3 + 1))
def f_Y8_sizeOf_L4 (n1 : Int32) (c_w : Nat → Int32) (n2 : Int32) (n3 : Int32) : Option ((Int32 × Int32) ⊕ Int32) :=
  gd 2423 2450 ((if (c_w (2423 : Int32).toNatClampNeg) ≤ n3 then some (.inr n2)
  else (if ((n1 >>> (n3 &&& 31)) &&& 1) = 1 then gd (2424 + n3) 2450 (f_Y8_sizeOf_L4_J40 n1 n3 n2 (c_w (2424 + n3).toNatClampNeg) c_w)
  else f_Y8_sizeOf_L4_J40 n1 n3 n2 0 c_w)))
def f_Y8_sizeOf (v1 : Int32) (c_w : Nat → Int32) : Option (Int32) :=
  (bnd1 (loop (fun z => f_Y8_sizeOf_L4 v1 c_w z.1 z.2) fu (0, 0)) fun m6 =>
  some m6)
def f_Y8_isGreater_L2 (n1 : Int32) (c_w : Nat → Int32) (n2 : Int32) : Option ((Int32) ⊕ ((Unit) ⊕ Unit)) :=
  gd 2423 2450 ((if (c_w (2423 : Int32).toNatClampNeg) ≤ n2 then some (.inr (.inr ()))
  else gd (2424 + n2) 2450 ((if (c_w (2424 + n2).toNatClampNeg) ≤ n1 then some (.inl (n2 + 1))
  else some (.inr (.inl ()))))))
def f_Y8_isGreater (v1 : Int32) (c_w : Nat → Int32) : Option (Int32) :=
  (bnd1 (loop (fun z => f_Y8_isGreater_L2 v1 c_w z) fu 0) fun e6 =>
  (sel (fun _ => some 1) (fun _ => some 0)) e6)
def f_Y8_boxes_L66_J125 (n1 : Int32) (n2 : Int32) (n3 : Int32) (t1 : Int32) (t2 : Int32) (c_raised : Int32) (c_w : Nat → Int32) (c_boxesOf : Nat → Int32) : Option ((Int32 × (Nat → Int32)) ⊕ (Nat → Int32)) :=
  gd t1 256 (some (.inl ((n3 - 1) &&& n2, upd c_boxesOf t1.toNatClampNeg t2)))
def f_Y8_boxes_L66_J96 (n1 : Int32) (n2 : Int32) (n3 : Int32) (t0 : Int32) (c_raised : Int32) (c_w : Nat → Int32) (c_boxesOf : Nat → Int32) : Option ((Int32 × (Nat → Int32)) ⊕ (Nat → Int32)) :=
  gd n2 256 ((if (c_boxesOf n2.toNatClampNeg) ≤ t0 then gd n2 256 (f_Y8_boxes_L66_J125 n1 n2 n3 n2 (c_boxesOf n2.toNatClampNeg) c_raised c_w c_boxesOf)
  else f_Y8_boxes_L66_J125 n1 n2 n3 n2 t0 c_raised c_w c_boxesOf))
def f_Y8_boxes_L66 (n1 : Int32) (n2 : Int32) (c_raised : Int32) (c_w : Nat → Int32) (n3 : Int32) (c_boxesOf : Nat → Int32) : Option ((Int32 × (Nat → Int32)) ⊕ (Nat → Int32)) :=
  (if n3 ≤ 0 then some (.inr c_boxesOf)
  else bnd1 (f_Y8_sizeOf n3 c_w) (fun r13 =>
  ((if n1 < r13 then f_Y8_boxes_L66_J96 n1 n2 n3 1000000000 c_raised c_w c_boxesOf
  else gd (n2 &&& (n3 ^^^ (-1))) 256 (f_Y8_boxes_L66_J96 n1 n2 n3 ((c_boxesOf (n2 &&& (n3 ^^^ (-1))).toNatClampNeg) + 1) c_raised c_w c_boxesOf)))))
def f_Y8_boxes_L42 (n1 : Int32) (c_raised : Int32) (c_w : Nat → Int32) (n2 : Int32) (c_boxesOf : Nat → Int32) : Option ((Int32 × (Nat → Int32)) ⊕ (Nat → Int32)) :=
  gd 2423 2450 ((if (1 <<< ((c_w (2423 : Int32).toNatClampNeg) &&& 31)) ≤ n2 then some (.inr c_boxesOf)
  else gd n2 256 ((bnd1 (loop (fun z => f_Y8_boxes_L66 n1 n2 c_raised c_w z.1 z.2) fu (n2, upd c_boxesOf n2.toNatClampNeg 1000000000)) fun c22 =>
  some (.inl (n2 + 1, c22))))))
def f_Y8_boxes_J24 (n1 : Int32) (t1 : Int32) (c_raised : Int32) (c_w : Nat → Int32) (c_boxesOf : Nat → Int32) : Option (Int32 × Int32 × (Nat → Int32)) :=
  bnd2 (f_Y8_can t1 1 c_raised) (fun r4 o6 =>
  ((if r4 = 0 then some (0, o6, c_boxesOf)
  else gd 0 256 ((bnd1 (loop (fun z => f_Y8_boxes_L42 n1 o6 c_w z.1 z.2) fu (1, upd c_boxesOf (0 : Int32).toNatClampNeg 0)) fun c24 =>
  gd 2423 2450 (gd ((1 <<< ((c_w (2423 : Int32).toNatClampNeg) &&& 31)) - 1) 256 (some (c24 ((1 <<< ((c_w (2423 : Int32).toNatClampNeg) &&& 31)) - 1).toNatClampNeg, o6, c24))))))))
def f_Y8_boxes_J23 (n1 : Int32) (c_raised : Int32) (c_w : Nat → Int32) (c_boxesOf : Nat → Int32) : Option (Int32 × Int32 × (Nat → Int32)) :=
  f_Y8_boxes_J24 n1 0 c_raised c_w c_boxesOf
def f_Y8_boxes (v1 : Int32) (c_raised : Int32) (c_w : Nat → Int32) (c_boxesOf : Nat → Int32) : Option (Int32 × Int32 × (Nat → Int32)) :=
  bnd1 (f_Y8_in v1 1 40) (fun r1 =>
  ((if r1 = 0 then f_Y8_boxes_J23 v1 c_raised c_w c_boxesOf
  else bnd1 (f_Y8_isGreater v1 c_w) (fun r27 =>
  ((if r27 = 0 then f_Y8_boxes_J24 v1 1 c_raised c_w c_boxesOf
  else f_Y8_boxes_J23 v1 c_raised c_w c_boxesOf))))))
def f_Y8_boxBound (v1 : Int32) (c_raised : Int32) (c_w : Nat → Int32) : Option (Int32 × Int32) :=
  bnd1 (f_Y8_in v1 1 40) (fun r1 =>
  (bnd2 (f_Y8_can r1 1 c_raised) (fun r3 o5 =>
  ((if r3 = 0 then some (0, o5)
  else bnd1 (f_Y8_sizeOf 255 c_w) (fun r7 =>
  (gz v1 (some (((r7 + v1) - 1) / v1, o5)))))))))
def f_Y8_setWants_J84 (n1 : Int32) (n2 : Int32) (n3 : Int32) (n4 : Int32) (n5 : Int32) (t1 : Int32) (c_raised : Int32) (c_undos : Int32) (c_eldest : Int32) (c_w : Nat → Int32) (c_kept : Nat → Int32) : Option (Int32 × Int32 × Int32 × Int32 × (Nat → Int32) × (Nat → Int32)) :=
  bnd2 (f_Y8_can t1 1 c_raised) (fun r5 o7 =>
  ((if r5 = 0 then some (0, o7, c_undos, c_eldest, c_w, c_kept)
  else bnd3 (f_Y8_keep c_undos c_eldest c_w c_kept) (fun o11 o12 o13 =>
  (gd 2432 2450 (gd 2433 2450 (gd 2434 2450 (gd 2435 2450 (gd 2436 2450 (some ((((n1 + n2) + n3) + n4) + n5, o7, o11, o12, upd (upd (upd (upd (upd c_w (2432 : Int32).toNatClampNeg n1) (2433 : Int32).toNatClampNeg n2) (2434 : Int32).toNatClampNeg n3) (2435 : Int32).toNatClampNeg n4) (2436 : Int32).toNatClampNeg n5, o13)))))))))))
def f_Y8_setWants_J83 (n1 : Int32) (n2 : Int32) (n3 : Int32) (n4 : Int32) (n5 : Int32) (c_raised : Int32) (c_undos : Int32) (c_eldest : Int32) (c_w : Nat → Int32) (c_kept : Nat → Int32) : Option (Int32 × Int32 × Int32 × Int32 × (Nat → Int32) × (Nat → Int32)) :=
  f_Y8_setWants_J84 n1 n2 n3 n4 n5 0 c_raised c_undos c_eldest c_w c_kept
def f_Y8_setWants_J57 (n1 : Int32) (n2 : Int32) (n3 : Int32) (n4 : Int32) (n5 : Int32) (t0 : Int32) (c_raised : Int32) (c_undos : Int32) (c_eldest : Int32) (c_w : Nat → Int32) (c_kept : Nat → Int32) : Option (Int32 × Int32 × Int32 × Int32 × (Nat → Int32) × (Nat → Int32)) :=
  (if t0 = 0 then f_Y8_setWants_J83 n1 n2 n3 n4 n5 c_raised c_undos c_eldest c_w c_kept
  else (if ((((n1 + n2) + n3) + n4) + n5) ≤ 0 then f_Y8_setWants_J83 n1 n2 n3 n4 n5 c_raised c_undos c_eldest c_w c_kept
  else f_Y8_setWants_J84 n1 n2 n3 n4 n5 1 c_raised c_undos c_eldest c_w c_kept))
def f_Y8_setWants_J56 (n1 : Int32) (n2 : Int32) (n3 : Int32) (n4 : Int32) (n5 : Int32) (c_raised : Int32) (c_undos : Int32) (c_eldest : Int32) (c_w : Nat → Int32) (c_kept : Nat → Int32) : Option (Int32 × Int32 × Int32 × Int32 × (Nat → Int32) × (Nat → Int32)) :=
  f_Y8_setWants_J57 n1 n2 n3 n4 n5 0 c_raised c_undos c_eldest c_w c_kept
def f_Y8_setWants (v1 : Int32) (v2 : Int32) (v3 : Int32) (v4 : Int32) (v5 : Int32) (c_raised : Int32) (c_undos : Int32) (c_eldest : Int32) (c_w : Nat → Int32) (c_kept : Nat → Int32) : Option (Int32 × Int32 × Int32 × Int32 × (Nat → Int32) × (Nat → Int32)) :=
  bnd1 (f_Y8_in v1 0 9) (fun r1 =>
  ((if r1 = 0 then f_Y8_setWants_J56 v1 v2 v3 v4 v5 c_raised c_undos c_eldest c_w c_kept
  else bnd1 (f_Y8_in v2 0 9) (fun r20 =>
  ((if r20 = 0 then f_Y8_setWants_J56 v1 v2 v3 v4 v5 c_raised c_undos c_eldest c_w c_kept
  else bnd1 (f_Y8_in v3 0 9) (fun r23 =>
  ((if r23 = 0 then f_Y8_setWants_J56 v1 v2 v3 v4 v5 c_raised c_undos c_eldest c_w c_kept
  else bnd1 (f_Y8_in v4 0 9) (fun r26 =>
  ((if r26 = 0 then f_Y8_setWants_J56 v1 v2 v3 v4 v5 c_raised c_undos c_eldest c_w c_kept
  else bnd1 (f_Y8_in v5 0 9) (fun r29 =>
  ((if r29 = 0 then f_Y8_setWants_J56 v1 v2 v3 v4 v5 c_raised c_undos c_eldest c_w c_kept
  else f_Y8_setWants_J57 v1 v2 v3 v4 v5 1 c_raised c_undos c_eldest c_w c_kept)))))))))))))))
def f_Y8_setCosts_J60 (n1 : Int32) (n2 : Int32) (n3 : Int32) (n4 : Int32) (n5 : Int32) (t1 : Int32) (c_raised : Int32) (c_undos : Int32) (c_eldest : Int32) (c_w : Nat → Int32) (c_kept : Nat → Int32) : Option (Int32 × Int32 × Int32 × Int32 × (Nat → Int32) × (Nat → Int32)) :=
  bnd2 (f_Y8_can t1 1 c_raised) (fun r4 o6 =>
  ((if r4 = 0 then some (0, o6, c_undos, c_eldest, c_w, c_kept)
  else bnd3 (f_Y8_keep c_undos c_eldest c_w c_kept) (fun o10 o11 o12 =>
  (gd 2441 2450 (bnd1 (f_Y8_costs n1 n2 n3 n4 n5 c_w) (fun o16 =>
  (some (c_w (2441 : Int32).toNatClampNeg, o6, o10, o11, o16, o12)))))))))
def f_Y8_setCosts_J59 (n1 : Int32) (n2 : Int32) (n3 : Int32) (n4 : Int32) (n5 : Int32) (c_raised : Int32) (c_undos : Int32) (c_eldest : Int32) (c_w : Nat → Int32) (c_kept : Nat → Int32) : Option (Int32 × Int32 × Int32 × Int32 × (Nat → Int32) × (Nat → Int32)) :=
  f_Y8_setCosts_J60 n1 n2 n3 n4 n5 0 c_raised c_undos c_eldest c_w c_kept
def f_Y8_setCosts (v1 : Int32) (v2 : Int32) (v3 : Int32) (v4 : Int32) (v5 : Int32) (c_raised : Int32) (c_undos : Int32) (c_eldest : Int32) (c_w : Nat → Int32) (c_kept : Nat → Int32) : Option (Int32 × Int32 × Int32 × Int32 × (Nat → Int32) × (Nat → Int32)) :=
  bnd1 (f_Y8_in v1 0 99) (fun r1 =>
  ((if r1 = 0 then f_Y8_setCosts_J59 v1 v2 v3 v4 v5 c_raised c_undos c_eldest c_w c_kept
  else bnd1 (f_Y8_in v2 0 20) (fun r17 =>
  ((if r17 = 0 then f_Y8_setCosts_J59 v1 v2 v3 v4 v5 c_raised c_undos c_eldest c_w c_kept
  else bnd1 (f_Y8_in v3 0 20) (fun r20 =>
  ((if r20 = 0 then f_Y8_setCosts_J59 v1 v2 v3 v4 v5 c_raised c_undos c_eldest c_w c_kept
  else bnd1 (f_Y8_in v4 (v2 + 1) 60) (fun r23 =>
  ((if r23 = 0 then f_Y8_setCosts_J59 v1 v2 v3 v4 v5 c_raised c_undos c_eldest c_w c_kept
  else bnd1 (f_Y8_in v5 0 20) (fun r26 =>
  ((if r26 = 0 then f_Y8_setCosts_J59 v1 v2 v3 v4 v5 c_raised c_undos c_eldest c_w c_kept
  else f_Y8_setCosts_J60 v1 v2 v3 v4 v5 1 c_raised c_undos c_eldest c_w c_kept)))))))))))))))
def f_Y8_cellOf (v0 : Int32) (v1 : Int32) : Option (Int32) :=
  some (((61 * v0) + v1) + 40)
def f_Y8_costOf (v1 : Int32) (c_w : Nat → Int32) : Option (Int64) :=
  (if v1 ≤ 0 then gd 2440 2450 (some (((-v1).toInt64) * ((c_w (2440 : Int32).toNatClampNeg).toInt64)))
  else gd 2439 2450 (some (v1.toInt64 * ((c_w (2439 : Int32).toNatClampNeg).toInt64))))
def f_Y8_stays_L5_J87 (n1 : Int32) (n2 : Int32) (n3 : Int64) (n5 : Int32) (c_w : Nat → Int32) (c_planned : Nat → Int64) (c_scale : Nat → Int64) : Option ((Int64 × Int32) ⊕ Int64) :=
  some (.inl (n3, n5 + 1))
def f_Y8_stays_L5_J66 (n1 : Int32) (n2 : Int32) (n3 : Int64) (n5 : Int32) (t0 : Int64) (t1 : Int64) (c_w : Nat → Int32) (c_planned : Nat → Int64) (c_scale : Nat → Int64) : Option ((Int64 × Int32) ⊕ Int64) :=
  gd (2432 + n5) 2450 (f_Y8_stays_L5_J87 n1 n2 (n3 + (((c_w (2432 + n5).toNatClampNeg).toInt64) * (t0 + t1))) n5 c_w c_planned c_scale)
def f_Y8_stays_L5 (n1 : Int32) (n2 : Int32) (c_w : Nat → Int32) (c_planned : Nat → Int64) (c_scale : Nat → Int64) (n3 : Int64) (n5 : Int32) : Option ((Int64 × Int32) ⊕ Int64) :=
  (if 5 ≤ n5 then some (.inr n3)
  else gd (2432 + n5) 2450 ((if (c_w (2432 + n5).toNatClampNeg) ≤ 0 then f_Y8_stays_L5_J87 n1 n2 n3 n5 c_w c_planned c_scale
  else bnd1 (f_Y8_costOf (n2 - n5) c_w) (fun r4 =>
  (gd (n1 - 1) 6 ((if n1 = 1 then f_Y8_stays_L5_J66 n1 n2 n3 n5 (r4 * (c_scale (n1 - 1).toNatClampNeg)) 0 c_w c_planned c_scale
  else bnd1 (f_Y8_cellOf (n1 - 1) (n2 - n5)) (fun r8 =>
  (gd r8 366 (f_Y8_stays_L5_J66 n1 n2 n3 n5 (r4 * (c_scale (n1 - 1).toNatClampNeg)) (c_planned r8.toNatClampNeg) c_w c_planned c_scale))))))))))
def f_Y8_stays (v1 : Int32) (v2 : Int32) (c_w : Nat → Int32) (c_planned : Nat → Int64) (c_scale : Nat → Int64) : Option (Int64) :=
  (bnd1 (loop (fun z => f_Y8_stays_L5 v1 v2 c_w c_planned c_scale z.1 z.2) fu (0, 0)) fun m13 =>
  some m13)
def f_Y8_ordering (v1 : Int32) (v2 : Int32) (v3 : Int32) (c_w : Nat → Int32) (c_staying : Nat → Int64) (c_scale : Nat → Int64) : Option (Int64) :=
  gd 2437 2450 (gd 2438 2450 (gd v1 6 (bnd1 (f_Y8_cellOf v1 v3) (fun r4 =>
  (gd r4 366 (some (((((c_w (2437 : Int32).toNatClampNeg).toInt64) + (((c_w (2438 : Int32).toNatClampNeg).toInt64) * ((v3 - v2).toInt64))) * (c_scale v1.toNatClampNeg)) + (c_staying r4.toNatClampNeg))))))))
def f_Y8_actAt_L19_J59 (n1 : Int32) (n2 : Int32) (n3 : Int32) (n4 : Int64) (n6 : Int32) (c_w : Nat → Int32) (c_staying : Nat → Int64) (c_scale : Nat → Int64) : Option ((Int32 × Int64 × Int32) ⊕ Int32) :=
  some (.inl (n3, n4, n6 + 1))
def f_Y8_actAt_L19 (n1 : Int32) (n2 : Int32) (c_w : Nat → Int32) (c_staying : Nat → Int64) (c_scale : Nat → Int64) (n3 : Int32) (n4 : Int64) (n6 : Int32) : Option ((Int32 × Int64 × Int32) ⊕ Int32) :=
  gd 2441 2450 ((if (c_w (2441 : Int32).toNatClampNeg) < n6 then some (.inr n3)
  else bnd1 (f_Y8_ordering n1 n2 n6 c_w c_staying c_scale) (fun r6 =>
  ((if 0 ≤ (lg_cmp r6 n4) then f_Y8_actAt_L19_J59 n1 n2 n3 n4 n6 c_w c_staying c_scale
  else bnd1 (f_Y8_ordering n1 n2 n6 c_w c_staying c_scale) (fun r9 =>
  (f_Y8_actAt_L19_J59 n1 n2 n6 r9 n6 c_w c_staying c_scale)))))))
def f_Y8_actAt (v1 : Int32) (v2 : Int32) (c_w : Nat → Int32) (c_staying : Nat → Int64) (c_scale : Nat → Int64) : Option (Int32) :=
  bnd1 (f_Y8_cellOf v1 v2) (fun r1 =>
  (gd r1 366 ((bnd1 (loop (fun z => f_Y8_actAt_L19 v1 v2 c_w c_staying c_scale z.1 z.2.1 z.2.2) fu (v2, c_staying r1.toNatClampNeg, v2 + 1)) fun m12 =>
  some m12))))
def f_Y8_plans_L4 (c_w : Nat → Int32) (c_staying : Nat → Int64) (c_planned : Nat → Int64) (c_scale : Nat → Int64) (n1 : Int32) (n2 : Int32) : Option ((Int32 × Int32) ⊕ Int32) :=
  (if 5 ≤ n2 then some (.inr n1)
  else gd (2432 + n2) 2450 (some (.inl (n1 + (c_w (2432 + n2).toNatClampNeg), n2 + 1))))
def f_Y8_plans_L69 (n1 : Int32) (n2 : Int32) (n3 : Int32) (c_w : Nat → Int32) (c_planned : Nat → Int64) (c_scale : Nat → Int64) (n4 : Int32) (c_staying : Nat → Int64) : Option ((Int32 × (Nat → Int64)) ⊕ (Nat → Int64)) :=
  gd 2441 2450 ((if (c_w (2441 : Int32).toNatClampNeg) < n4 then some (.inr c_staying)
  else bnd1 (f_Y8_cellOf n2 n4) (fun r11 =>
  (bnd1 (f_Y8_stays n2 n4 c_w c_planned c_scale) (fun r13 =>
  (gd r11 366 (some (.inl (n4 + 1, vp_updL c_staying r11.toNatClampNeg r13)))))))))
def f_Y8_plans_L109_J171 (n1 : Int32) (n2 : Int32) (n4 : Int32) (t1 : Int32) (t2 : Int64) (c_w : Nat → Int32) (c_staying : Nat → Int64) (c_planned : Nat → Int64) (c_scale : Nat → Int64) : Option ((Int32 × (Nat → Int64)) ⊕ (Nat → Int64)) :=
  gd t1 366 (some (.inl (n4 + 1, vp_updL c_planned t1.toNatClampNeg t2)))
def f_Y8_plans_L109 (n1 : Int32) (n2 : Int32) (c_w : Nat → Int32) (c_staying : Nat → Int64) (c_scale : Nat → Int64) (n4 : Int32) (c_planned : Nat → Int64) : Option ((Int32 × (Nat → Int64)) ⊕ (Nat → Int64)) :=
  gd 2441 2450 ((if (c_w (2441 : Int32).toNatClampNeg) < n4 then some (.inr c_planned)
  else bnd1 (f_Y8_actAt n2 n4 c_w c_staying c_scale) (fun r20 =>
  (bnd1 (f_Y8_cellOf n2 n4) (fun r22 =>
  ((if r20 = n4 then bnd1 (f_Y8_cellOf n2 n4) (fun r28 =>
  (gd r28 366 (f_Y8_plans_L109_J171 n1 n2 n4 r22 (c_staying r28.toNatClampNeg) c_w c_staying c_planned c_scale)))
  else bnd1 (f_Y8_ordering n2 n4 r20 c_w c_staying c_scale) (fun r25 =>
  (f_Y8_plans_L109_J171 n1 n2 n4 r22 r25 c_w c_staying c_planned c_scale)))))))))
def f_Y8_plans_L37 (n1 : Int32) (c_w : Nat → Int32) (n2 : Int32) (c_staying : Nat → Int64) (c_planned : Nat → Int64) (c_scale : Nat → Int64) : Option ((Int32 × (Nat → Int64) × (Nat → Int64) × (Nat → Int64)) ⊕ ((Nat → Int64) × (Nat → Int64) × (Nat → Int64))) :=
  (if 5 < n2 then some (.inr (c_staying, c_planned, c_scale))
  else gd (n2 - 1) 6 (gd n2 6 ((bnd1 (loop (fun z => f_Y8_plans_L69 n1 n2 ((-40) + (4 * n2)) c_w c_planned (vp_updL c_scale n2.toNatClampNeg ((c_scale (n2 - 1).toNatClampNeg) * n1.toInt64)) z.1 z.2) fu ((-40) + (4 * n2), c_staying)) fun c17 =>
  (bnd1 (loop (fun z => f_Y8_plans_L109 n1 n2 c_w c17 (vp_updL c_scale n2.toNatClampNeg ((c_scale (n2 - 1).toNatClampNeg) * n1.toInt64)) z.1 z.2) fu ((-40) + (4 * n2), c_planned)) fun c32 =>
  some (.inl (n2 + 1, c17, c32, vp_updL c_scale n2.toNatClampNeg ((c_scale (n2 - 1).toNatClampNeg) * n1.toInt64))))))))
def f_Y8_plans (c_w : Nat → Int32) (c_staying : Nat → Int64) (c_planned : Nat → Int64) (c_scale : Nat → Int64) : Option ((Nat → Int64) × (Nat → Int64) × (Nat → Int64)) :=
  (bnd1 (loop (fun z => f_Y8_plans_L4 c_w c_staying c_planned c_scale z.1 z.2) fu (0, 0)) fun m4 =>
  gd 0 6 ((bnd3 (loop (fun z => f_Y8_plans_L37 m4 c_w z.1 z.2.1 z.2.2.1 z.2.2.2) fu (1, c_staying, c_planned, vp_updL c_scale (0 : Int32).toNatClampNeg 1)) fun c34 c35 c36 =>
  some (c34, c35, c36))))
def f_Y8_isPlan_J32 (t1 : Int32) (c_raised : Int32) (c_w : Nat → Int32) (c_staying : Nat → Int64) (c_planned : Nat → Int64) (c_scale : Nat → Int64) : Option (Int32 × Int32 × (Nat → Int64) × (Nat → Int64) × (Nat → Int64)) :=
  bnd2 (f_Y8_can t1 1 c_raised) (fun r4 o6 =>
  ((if r4 = 0 then some (0, o6, c_staying, c_planned, c_scale)
  else bnd3 (f_Y8_plans c_w c_staying c_planned c_scale) (fun o10 o11 o12 =>
  (some (1, o6, o10, o11, o12))))))
def f_Y8_isPlan_J31 (c_raised : Int32) (c_w : Nat → Int32) (c_staying : Nat → Int64) (c_planned : Nat → Int64) (c_scale : Nat → Int64) : Option (Int32 × Int32 × (Nat → Int64) × (Nat → Int64) × (Nat → Int64)) :=
  f_Y8_isPlan_J32 0 c_raised c_w c_staying c_planned c_scale
def f_Y8_isPlan (v1 : Int32) (v2 : Int32) (c_raised : Int32) (c_w : Nat → Int32) (c_staying : Nat → Int64) (c_planned : Nat → Int64) (c_scale : Nat → Int64) : Option (Int32 × Int32 × (Nat → Int64) × (Nat → Int64) × (Nat → Int64)) :=
  bnd1 (f_Y8_in v1 1 5) (fun r1 =>
  ((if r1 = 0 then f_Y8_isPlan_J31 c_raised c_w c_staying c_planned c_scale
  else gd 2441 2450 (bnd1 (f_Y8_in v2 (-20) (c_w (2441 : Int32).toNatClampNeg)) (fun r14 =>
  ((if r14 = 0 then f_Y8_isPlan_J31 c_raised c_w c_staying c_planned c_scale
  else f_Y8_isPlan_J32 1 c_raised c_w c_staying c_planned c_scale)))))))
def f_Y8_lowBound_L14 (n1 : Int32) (c_raised : Int32) (c_w : Nat → Int32) (c_staying : Nat → Int64) (c_planned : Nat → Int64) (c_scale : Nat → Int64) (n2 : Int32) : Option ((Int32) ⊕ Int32) :=
  bnd1 (f_Y8_actAt n1 n2 c_w c_staying c_scale) (fun r8 =>
  ((if r8 = n2 then some (.inr n2)
  else some (.inl (n2 + 1)))))
def f_Y8_lowBound (v1 : Int32) (c_raised : Int32) (c_w : Nat → Int32) (c_staying : Nat → Int64) (c_planned : Nat → Int64) (c_scale : Nat → Int64) : Option (Int32 × Int32 × (Nat → Int64) × (Nat → Int64) × (Nat → Int64)) :=
  bnd5 (f_Y8_isPlan v1 0 c_raised c_w c_staying c_planned c_scale) (fun r1 o3 o4 o5 o6 =>
  ((if r1 = 0 then some (0, o3, o4, o5, o6)
  else (bnd1 (loop (fun z => f_Y8_lowBound_L14 v1 o3 c_w o4 o5 o6 z) fu (-20)) fun m12 =>
  some (m12, o3, o4, o5, o6)))))
def f_Y8_highCost (v1 : Int32) (v2 : Int32) (c_w : Nat → Int32) (c_staying : Nat → Int64) (c_scale : Nat → Int64) : Option (Int64) :=
  gd 2438 2450 (gd v1 6 (bnd1 (f_Y8_cellOf v1 v2) (fun r3 =>
  (gd r3 366 (some (((((c_w (2438 : Int32).toNatClampNeg).toInt64) * v2.toInt64) * (c_scale v1.toNatClampNeg)) + (c_staying r3.toNatClampNeg)))))))
def f_Y8_highBound_L17_J50 (n1 : Int32) (n3 : Int32) (t0 : Int32) (c_raised : Int32) (c_w : Nat → Int32) (c_staying : Nat → Int64) (c_planned : Nat → Int64) (c_scale : Nat → Int64) : Option ((Int32 × Int32) ⊕ Int32) :=
  some (.inl (t0, n3 + 1))
def f_Y8_highBound_L17 (n1 : Int32) (c_raised : Int32) (c_w : Nat → Int32) (c_staying : Nat → Int64) (c_planned : Nat → Int64) (c_scale : Nat → Int64) (n2 : Int32) (n3 : Int32) : Option ((Int32 × Int32) ⊕ Int32) :=
  gd 2441 2450 ((if (c_w (2441 : Int32).toNatClampNeg) < n3 then some (.inr n2)
  else bnd1 (f_Y8_highCost n1 n3 c_w c_staying c_scale) (fun r10 =>
  (bnd1 (f_Y8_highCost n1 n2 c_w c_staying c_scale) (fun r12 =>
  ((if 0 ≤ (lg_cmp r10 r12) then f_Y8_highBound_L17_J50 n1 n3 n2 c_raised c_w c_staying c_planned c_scale
  else f_Y8_highBound_L17_J50 n1 n3 n3 c_raised c_w c_staying c_planned c_scale)))))))
def f_Y8_highBound (v1 : Int32) (c_raised : Int32) (c_w : Nat → Int32) (c_staying : Nat → Int64) (c_planned : Nat → Int64) (c_scale : Nat → Int64) : Option (Int32 × Int32 × (Nat → Int64) × (Nat → Int64) × (Nat → Int64)) :=
  bnd5 (f_Y8_isPlan v1 0 c_raised c_w c_staying c_planned c_scale) (fun r1 o3 o4 o5 o6 =>
  ((if r1 = 0 then some (0, o3, o4, o5, o6)
  else (bnd1 (loop (fun z => f_Y8_highBound_L17 v1 o3 c_w o4 o5 o6 z.1 z.2) fu ((-20), (-19))) fun m16 =>
  some (m16, o3, o4, o5, o6)))))
def f_Y8_bestAct (v1 : Int32) (v2 : Int32) (c_raised : Int32) (c_w : Nat → Int32) (c_staying : Nat → Int64) (c_planned : Nat → Int64) (c_scale : Nat → Int64) : Option (Int32 × Int32 × (Nat → Int64) × (Nat → Int64) × (Nat → Int64)) :=
  bnd5 (f_Y8_isPlan v1 v2 c_raised c_w c_staying c_planned c_scale) (fun r1 o3 o4 o5 o6 =>
  ((if r1 = 0 then some (0, o3, o4, o5, o6)
  else bnd1 (f_Y8_actAt v1 v2 c_w o4 o6) (fun r8 =>
  (some (r8, o3, o4, o5, o6))))))
def f_Y8_common_L6 (n4 : Int64) (n6 : Int64) : Option ((Int64 × Int64) ⊕ Int64) :=
  (if (lg_cmp n6 0) = 0 then some (.inr n4)
  else gz n6 (some (.inl (n6, n4 - n4 / n6 * n6))))
def f_Y8_common (v0 : Int64) (v2 : Int64) : Option (Int64) :=
  (bnd1 (loop (fun z => f_Y8_common_L6 z.1 z.2) fu (v0, v2)) fun m4 =>
  some m4)
def f_Y8_planCost (v1 : Int32) (v2 : Int32) (v3 : Int32) (c_raised : Int32) (c_w : Nat → Int32) (c_staying : Nat → Int64) (c_planned : Nat → Int64) (c_scale : Nat → Int64) : Option (Int64 × Int32 × (Nat → Int64) × (Nat → Int64) × (Nat → Int64)) :=
  bnd5 (f_Y8_isPlan v1 v2 c_raised c_w c_staying c_planned c_scale) (fun r1 o3 o4 o5 o6 =>
  ((if r1 = 0 then some (0, o3, o4, o5, o6)
  else bnd1 (f_Y8_cellOf v1 v2) (fun r8 =>
  (gd r8 366 (gd v1 6 (bnd1 (f_Y8_common (o5 r8.toNatClampNeg) (o6 v1.toNatClampNeg)) (fun r12 =>
  ((if v3 = 0 then gz r12 (some ((o5 r8.toNatClampNeg) / r12, o3, o4, o5, o6))
  else gd v1 6 (gz r12 (some ((o6 v1.toNatClampNeg) / r12, o3, o4, o5, o6)))))))))))))
def f_Y8_allPieces_L4 (c_w : Nat → Int32) (n1 : Int32) (n2 : Int32) : Option ((Int32 × Int32) ⊕ Int32) :=
  bnd1 (f_Y8_places c_w) (fun r1 =>
  ((if r1 ≤ n2 then some (.inr n1)
  else gd (63 + n2) 2450 (some (.inl (n1 + (c_w (63 + n2).toNatClampNeg), n2 + 1))))))
def f_Y8_allPieces (c_w : Nat → Int32) : Option (Int32) :=
  (bnd1 (loop (fun z => f_Y8_allPieces_L4 c_w z.1 z.2) fu (0, 0)) fun m6 =>
  some m6)
def f_Y8_book (v1 : Int32) (c_raised : Int32) (c_w : Nat → Int32) : Option (Int32 × Int32) :=
  bnd1 (f_Y8_in v1 0 6) (fun r1 =>
  (bnd2 (f_Y8_can r1 1 c_raised) (fun r3 o5 =>
  ((if r3 = 0 then some (0, o5)
  else (if v1 = 6 then bnd1 (f_Y8_allPieces c_w) (fun r9 =>
  (some (r9, o5)))
  else gd (9 + v1) 2450 (some (c_w (9 + v1).toNatClampNeg, o5))))))))
def f_Y8_checksum_L19 (c_raised : Int32) (c_w : Nat → Int32) (n1 : Int64) (n3 : Int32) : Option ((Int64 × Int32) ⊕ Int64) :=
  bnd1 (f_Y8_places c_w) (fun r2 =>
  ((if r2 ≤ n3 then some (.inr n1)
  else gd (15 + n3) 2450 (gd (63 + n3) 2450 (some (.inl ((31 * ((31 * n1) + ((c_w (15 + n3).toNatClampNeg).toInt64))) + ((c_w (63 + n3).toNatClampNeg).toInt64), n3 + 1)))))))
def f_Y8_checksum_L69 (c_raised : Int32) (c_w : Nat → Int32) (n1 : Int64) (n3 : Int32) : Option ((Int64 × Int32) ⊕ Int64) :=
  gd 7 2450 ((if (c_w (7 : Int32).toNatClampNeg) ≤ n3 then some (.inr n1)
  else gd (383 + n3) 2450 (bnd1 (f_Y8_hasAll n3 c_w) (fun r12 =>
  (some (.inl ((31 * ((31 * n1) + ((c_w (383 + n3).toNatClampNeg).toInt64))) + r12.toInt64, n3 + 1)))))))
def f_Y8_checksum (c_raised : Int32) (c_w : Nat → Int32) : Option (Int64 × Int32) :=
  gd 0 2450 ((bnd1 (loop (fun z => f_Y8_checksum_L19 0 c_w z.1 z.2) fu (527 + ((c_w (0 : Int32).toNatClampNeg).toInt64), 0)) fun m8 =>
  (bnd1 (loop (fun z => f_Y8_checksum_L69 0 c_w z.1 z.2) fu (m8, 0)) fun m15 =>
  some (m15, 0))))
def f_Y8_errors (c_raised : Int32) : Option (Int32 × Int32) :=
  some (0, 0)
def f_X7_scrap_J33 (n1 : Int32) (n2 : Int32) (t0 : Int32) (c_acts : Int32) (c_nextSlot : Int32) (c_hk : Nat) (c_st : Nat → StT) (c_now_today : Int32) (c_now_products : Int32) (c_now_itemCount : Int32) (c_now_items : Nat → Int32) (c_now_books : Nat → Int32) (c_now_terms : Nat → Int32) (c_now_shelves_lanes : Int32) (c_now_shelves_positions : Int32) (c_now_shelves_room : Int32) (c_now_shelves_gap : Int32) (c_now_shelves_places : Int32) (c_now_shelves_picked : Int64) (c_now_shelves_lot : Nat → Int32) (c_now_shelves_pieces : Nat → Int32) (c_now_shelves_mark : Nat → Int32) (c_now_shelves_byDistance : Nat → Int32) (c_now_lots_count : Int32) (c_now_lots_product : Nat → Int32) (c_now_lots_last : Nat → Int32) (c_now_lots_cost : Nat → Int32) (c_now_lots_state : Nat → Int32) (c_now_lots_byLast : Nat → Int32) (c_now_orders_count : Int32) (c_now_orders_gifts : Int32) (c_now_orders_customer : Nat → Int32) (c_now_orders_product : Nat → Int32) (c_now_orders_open : Nat → Int32) (c_now_orders_due : Nat → Int32) (c_now_orders_life : Nat → Int32) (c_now_orders_byDue : Nat → Int32) (c_now_orders_had : Nat → Int32) (c_now_orders_stamps : Nat → Int32) : Option ((Except String Int32) × Int32 × Int32 × Nat × (Nat → StT) × (Nat → Int32) × (Nat → Int32) × (Nat → Int32) × (Nat → Int32)) :=
  bnd1 (f_X7_needState t0) (fun r9 => mx r9 (fun E11 => some (.error E11, c_acts, c_nextSlot, c_hk, c_st, c_now_books, c_now_shelves_lot, c_now_shelves_pieces, c_now_shelves_mark)) (fun _ =>
  (bnd4 (f_X7_remember c_acts c_nextSlot c_hk c_st c_now_today c_now_products c_now_itemCount c_now_items c_now_books c_now_terms c_now_shelves_lanes c_now_shelves_positions c_now_shelves_room c_now_shelves_gap c_now_shelves_places c_now_shelves_picked c_now_shelves_lot c_now_shelves_pieces c_now_shelves_mark c_now_shelves_byDistance c_now_lots_count c_now_lots_product c_now_lots_last c_now_lots_cost c_now_lots_state c_now_lots_byLast c_now_orders_count c_now_orders_gifts c_now_orders_customer c_now_orders_product c_now_orders_open c_now_orders_due c_now_orders_life c_now_orders_byDue c_now_orders_had c_now_orders_stamps) (fun o14 o15 o16 o17 =>
  (gd n1 48 (gd n1 48 (bnd3 (f_X5_set n1 (c_now_shelves_lot n1.toNatClampNeg) ((c_now_shelves_pieces n1.toNatClampNeg) - n2) 5 c_now_shelves_places c_now_shelves_lot c_now_shelves_pieces c_now_shelves_mark) (fun o22 o23 o24 =>
  (gd 3 6 (gd 3 6 (some (.ok ((c_now_shelves_pieces n1.toNatClampNeg) - n2), o14, o15, o16, o17, upd c_now_books (3 : Int32).toNatClampNeg ((c_now_books (3 : Int32).toNatClampNeg) + n2), o22, o23, o24))))))))))))
def f_X7_scrap (v1 : Int32) (v2 : Int32) (c_acts : Int32) (c_nextSlot : Int32) (c_hk : Nat) (c_st : Nat → StT) (c_now_today : Int32) (c_now_products : Int32) (c_now_itemCount : Int32) (c_now_items : Nat → Int32) (c_now_books : Nat → Int32) (c_now_terms : Nat → Int32) (c_now_shelves_lanes : Int32) (c_now_shelves_positions : Int32) (c_now_shelves_room : Int32) (c_now_shelves_gap : Int32) (c_now_shelves_places : Int32) (c_now_shelves_picked : Int64) (c_now_shelves_lot : Nat → Int32) (c_now_shelves_pieces : Nat → Int32) (c_now_shelves_mark : Nat → Int32) (c_now_shelves_byDistance : Nat → Int32) (c_now_lots_count : Int32) (c_now_lots_product : Nat → Int32) (c_now_lots_last : Nat → Int32) (c_now_lots_cost : Nat → Int32) (c_now_lots_state : Nat → Int32) (c_now_lots_byLast : Nat → Int32) (c_now_orders_count : Int32) (c_now_orders_gifts : Int32) (c_now_orders_customer : Nat → Int32) (c_now_orders_product : Nat → Int32) (c_now_orders_open : Nat → Int32) (c_now_orders_due : Nat → Int32) (c_now_orders_life : Nat → Int32) (c_now_orders_byDue : Nat → Int32) (c_now_orders_had : Nat → Int32) (c_now_orders_stamps : Nat → Int32) : Option ((Except String Int32) × Int32 × Int32 × Nat × (Nat → StT) × (Nat → Int32) × (Nat → Int32) × (Nat → Int32) × (Nat → Int32)) :=
  bnd1 (f_X7_needPlace v1 c_now_shelves_places) (fun r1 => mx r1 (fun E3 => some (.error E3, c_acts, c_nextSlot, c_hk, c_st, c_now_books, c_now_shelves_lot, c_now_shelves_pieces, c_now_shelves_mark)) (fun _ =>
  (bnd1 (f_X7_needRange v2 1 20) (fun r4 => mx r4 (fun E6 => some (.error E6, c_acts, c_nextSlot, c_hk, c_st, c_now_books, c_now_shelves_lot, c_now_shelves_pieces, c_now_shelves_mark)) (fun _ =>
  (gd v1 48 ((if (c_now_shelves_pieces v1.toNatClampNeg) < v2 then f_X7_scrap_J33 v1 v2 0 c_acts c_nextSlot c_hk c_st c_now_today c_now_products c_now_itemCount c_now_items c_now_books c_now_terms c_now_shelves_lanes c_now_shelves_positions c_now_shelves_room c_now_shelves_gap c_now_shelves_places c_now_shelves_picked c_now_shelves_lot c_now_shelves_pieces c_now_shelves_mark c_now_shelves_byDistance c_now_lots_count c_now_lots_product c_now_lots_last c_now_lots_cost c_now_lots_state c_now_lots_byLast c_now_orders_count c_now_orders_gifts c_now_orders_customer c_now_orders_product c_now_orders_open c_now_orders_due c_now_orders_life c_now_orders_byDue c_now_orders_had c_now_orders_stamps
  else f_X7_scrap_J33 v1 v2 1 c_acts c_nextSlot c_hk c_st c_now_today c_now_products c_now_itemCount c_now_items c_now_books c_now_terms c_now_shelves_lanes c_now_shelves_positions c_now_shelves_room c_now_shelves_gap c_now_shelves_places c_now_shelves_picked c_now_shelves_lot c_now_shelves_pieces c_now_shelves_mark c_now_shelves_byDistance c_now_lots_count c_now_lots_product c_now_lots_last c_now_lots_cost c_now_lots_state c_now_lots_byLast c_now_orders_count c_now_orders_gifts c_now_orders_customer c_now_orders_product c_now_orders_open c_now_orders_due c_now_orders_life c_now_orders_byDue c_now_orders_had c_now_orders_stamps))))))))
def f_X7_move_J44 (n1 : Int32) (n2 : Int32) (t0 : Int32) (c_acts : Int32) (c_nextSlot : Int32) (c_hk : Nat) (c_st : Nat → StT) (c_now_today : Int32) (c_now_products : Int32) (c_now_itemCount : Int32) (c_now_items : Nat → Int32) (c_now_books : Nat → Int32) (c_now_terms : Nat → Int32) (c_now_shelves_lanes : Int32) (c_now_shelves_positions : Int32) (c_now_shelves_room : Int32) (c_now_shelves_gap : Int32) (c_now_shelves_places : Int32) (c_now_shelves_picked : Int64) (c_now_shelves_lot : Nat → Int32) (c_now_shelves_pieces : Nat → Int32) (c_now_shelves_mark : Nat → Int32) (c_now_shelves_byDistance : Nat → Int32) (c_now_lots_count : Int32) (c_now_lots_product : Nat → Int32) (c_now_lots_last : Nat → Int32) (c_now_lots_cost : Nat → Int32) (c_now_lots_state : Nat → Int32) (c_now_lots_byLast : Nat → Int32) (c_now_orders_count : Int32) (c_now_orders_gifts : Int32) (c_now_orders_customer : Nat → Int32) (c_now_orders_product : Nat → Int32) (c_now_orders_open : Nat → Int32) (c_now_orders_due : Nat → Int32) (c_now_orders_life : Nat → Int32) (c_now_orders_byDue : Nat → Int32) (c_now_orders_had : Nat → Int32) (c_now_orders_stamps : Nat → Int32) : Option ((Except String Int32) × Int32 × Int32 × Nat × (Nat → StT) × (Nat → Int32) × (Nat → Int32) × (Nat → Int32)) :=
  bnd1 (f_X7_needState t0) (fun r11 => mx r11 (fun E13 => some (.error E13, c_acts, c_nextSlot, c_hk, c_st, c_now_shelves_lot, c_now_shelves_pieces, c_now_shelves_mark)) (fun _ =>
  (bnd1 (f_X5_isFree n2 c_now_shelves_places c_now_shelves_pieces) (fun r14 =>
  (bnd1 (f_X7_needState r14) (fun r16 => mx r16 (fun E18 => some (.error E18, c_acts, c_nextSlot, c_hk, c_st, c_now_shelves_lot, c_now_shelves_pieces, c_now_shelves_mark)) (fun _ =>
  (bnd4 (f_X7_remember c_acts c_nextSlot c_hk c_st c_now_today c_now_products c_now_itemCount c_now_items c_now_books c_now_terms c_now_shelves_lanes c_now_shelves_positions c_now_shelves_room c_now_shelves_gap c_now_shelves_places c_now_shelves_picked c_now_shelves_lot c_now_shelves_pieces c_now_shelves_mark c_now_shelves_byDistance c_now_lots_count c_now_lots_product c_now_lots_last c_now_lots_cost c_now_lots_state c_now_lots_byLast c_now_orders_count c_now_orders_gifts c_now_orders_customer c_now_orders_product c_now_orders_open c_now_orders_due c_now_orders_life c_now_orders_byDue c_now_orders_had c_now_orders_stamps) (fun o21 o22 o23 o24 =>
  (gd n1 48 (gd n1 48 (bnd3 (f_X5_set n2 (c_now_shelves_lot n1.toNatClampNeg) (c_now_shelves_pieces n1.toNatClampNeg) 6 c_now_shelves_places c_now_shelves_lot c_now_shelves_pieces c_now_shelves_mark) (fun o29 o30 o31 =>
  (bnd3 (f_X5_set n1 (-1) 0 6 c_now_shelves_places o29 o30 o31) (fun o34 o35 o36 =>
  (some (.ok (c_now_shelves_pieces n1.toNatClampNeg), o21, o22, o23, o24, o34, o35, o36)))))))))))))))))
def f_X7_move (v1 : Int32) (v2 : Int32) (c_acts : Int32) (c_nextSlot : Int32) (c_hk : Nat) (c_st : Nat → StT) (c_now_today : Int32) (c_now_products : Int32) (c_now_itemCount : Int32) (c_now_items : Nat → Int32) (c_now_books : Nat → Int32) (c_now_terms : Nat → Int32) (c_now_shelves_lanes : Int32) (c_now_shelves_positions : Int32) (c_now_shelves_room : Int32) (c_now_shelves_gap : Int32) (c_now_shelves_places : Int32) (c_now_shelves_picked : Int64) (c_now_shelves_lot : Nat → Int32) (c_now_shelves_pieces : Nat → Int32) (c_now_shelves_mark : Nat → Int32) (c_now_shelves_byDistance : Nat → Int32) (c_now_lots_count : Int32) (c_now_lots_product : Nat → Int32) (c_now_lots_last : Nat → Int32) (c_now_lots_cost : Nat → Int32) (c_now_lots_state : Nat → Int32) (c_now_lots_byLast : Nat → Int32) (c_now_orders_count : Int32) (c_now_orders_gifts : Int32) (c_now_orders_customer : Nat → Int32) (c_now_orders_product : Nat → Int32) (c_now_orders_open : Nat → Int32) (c_now_orders_due : Nat → Int32) (c_now_orders_life : Nat → Int32) (c_now_orders_byDue : Nat → Int32) (c_now_orders_had : Nat → Int32) (c_now_orders_stamps : Nat → Int32) : Option ((Except String Int32) × Int32 × Int32 × Nat × (Nat → StT) × (Nat → Int32) × (Nat → Int32) × (Nat → Int32)) :=
  bnd1 (f_X7_needPlace v1 c_now_shelves_places) (fun r1 => mx r1 (fun E3 => some (.error E3, c_acts, c_nextSlot, c_hk, c_st, c_now_shelves_lot, c_now_shelves_pieces, c_now_shelves_mark)) (fun _ =>
  (bnd1 (f_X7_needPlace v2 c_now_shelves_places) (fun r4 => mx r4 (fun E6 => some (.error E6, c_acts, c_nextSlot, c_hk, c_st, c_now_shelves_lot, c_now_shelves_pieces, c_now_shelves_mark)) (fun _ =>
  ((if v1 = v2 then some (.error "java/lang/IllegalArgumentException", c_acts, c_nextSlot, c_hk, c_st, c_now_shelves_lot, c_now_shelves_pieces, c_now_shelves_mark)
  else bnd1 (f_X5_isFree v1 c_now_shelves_places c_now_shelves_pieces) (fun r8 =>
  ((if r8 = 0 then f_X7_move_J44 v1 v2 1 c_acts c_nextSlot c_hk c_st c_now_today c_now_products c_now_itemCount c_now_items c_now_books c_now_terms c_now_shelves_lanes c_now_shelves_positions c_now_shelves_room c_now_shelves_gap c_now_shelves_places c_now_shelves_picked c_now_shelves_lot c_now_shelves_pieces c_now_shelves_mark c_now_shelves_byDistance c_now_lots_count c_now_lots_product c_now_lots_last c_now_lots_cost c_now_lots_state c_now_lots_byLast c_now_orders_count c_now_orders_gifts c_now_orders_customer c_now_orders_product c_now_orders_open c_now_orders_due c_now_orders_life c_now_orders_byDue c_now_orders_had c_now_orders_stamps
  else f_X7_move_J44 v1 v2 0 c_acts c_nextSlot c_hk c_st c_now_today c_now_products c_now_itemCount c_now_items c_now_books c_now_terms c_now_shelves_lanes c_now_shelves_positions c_now_shelves_room c_now_shelves_gap c_now_shelves_places c_now_shelves_picked c_now_shelves_lot c_now_shelves_pieces c_now_shelves_mark c_now_shelves_byDistance c_now_lots_count c_now_lots_product c_now_lots_last c_now_lots_cost c_now_lots_state c_now_lots_byLast c_now_orders_count c_now_orders_gifts c_now_orders_customer c_now_orders_product c_now_orders_open c_now_orders_due c_now_orders_life c_now_orders_byDue c_now_orders_had c_now_orders_stamps))))))))))
def f_X7_cancel (v1 : Int32) (c_acts : Int32) (c_nextSlot : Int32) (c_hk : Nat) (c_st : Nat → StT) (c_now_today : Int32) (c_now_products : Int32) (c_now_itemCount : Int32) (c_now_items : Nat → Int32) (c_now_books : Nat → Int32) (c_now_terms : Nat → Int32) (c_now_shelves_lanes : Int32) (c_now_shelves_positions : Int32) (c_now_shelves_room : Int32) (c_now_shelves_gap : Int32) (c_now_shelves_places : Int32) (c_now_shelves_picked : Int64) (c_now_shelves_lot : Nat → Int32) (c_now_shelves_pieces : Nat → Int32) (c_now_shelves_mark : Nat → Int32) (c_now_shelves_byDistance : Nat → Int32) (c_now_lots_count : Int32) (c_now_lots_product : Nat → Int32) (c_now_lots_last : Nat → Int32) (c_now_lots_cost : Nat → Int32) (c_now_lots_state : Nat → Int32) (c_now_lots_byLast : Nat → Int32) (c_now_orders_count : Int32) (c_now_orders_gifts : Int32) (c_now_orders_customer : Nat → Int32) (c_now_orders_product : Nat → Int32) (c_now_orders_open : Nat → Int32) (c_now_orders_due : Nat → Int32) (c_now_orders_life : Nat → Int32) (c_now_orders_byDue : Nat → Int32) (c_now_orders_had : Nat → Int32) (c_now_orders_stamps : Nat → Int32) : Option ((Except String Int32) × Int32 × Int32 × Nat × (Nat → StT) × (Nat → Int32)) :=
  bnd1 (f_X7_needOrder v1 c_now_orders_count) (fun r1 => mx r1 (fun E3 => some (.error E3, c_acts, c_nextSlot, c_hk, c_st, c_now_orders_open)) (fun _ =>
  (bnd4 (f_X7_remember c_acts c_nextSlot c_hk c_st c_now_today c_now_products c_now_itemCount c_now_items c_now_books c_now_terms c_now_shelves_lanes c_now_shelves_positions c_now_shelves_room c_now_shelves_gap c_now_shelves_places c_now_shelves_picked c_now_shelves_lot c_now_shelves_pieces c_now_shelves_mark c_now_shelves_byDistance c_now_lots_count c_now_lots_product c_now_lots_last c_now_lots_cost c_now_lots_state c_now_lots_byLast c_now_orders_count c_now_orders_gifts c_now_orders_customer c_now_orders_product c_now_orders_open c_now_orders_due c_now_orders_life c_now_orders_byDue c_now_orders_had c_now_orders_stamps) (fun o6 o7 o8 o9 =>
  (gd v1 40 (gd v1 40 (some (.ok (c_now_orders_open v1.toNatClampNeg), o6, o7, o8, o9, upd c_now_orders_open v1.toNatClampNeg 0))))))))
def f_Y8_init_L118 (c_near : Nat → Int32) (n1 : Int32) (c_w : Nat → Int32) : Option ((Int32 × (Nat → Int32)) ⊕ (Nat → Int32)) :=
  (if 5 ≤ n1 then some (.inr c_w)
  else gd (2432 + n1) 2450 (some (.inl (n1 + 1, upd c_w (2432 + n1).toNatClampNeg 1))))
def f_Y8_init : Option ((Nat → Int32) × (Nat → Int32)) :=
  bnd2 (f_Y8_begins 3 4 6 2 (fun _ => 0) (fun _ => 0)) (fun o3 o4 =>
  ((bnd1 (loop (fun z => f_Y8_init_L118 o4 z.1 z.2) fu (0, o3)) fun c8 =>
  bnd1 (f_Y8_costs 10 2 1 9 10 c8) (fun o11 =>
  (some (o11, o4))))))
def f_X7_meanLife_L21 (c_now_today : Int32) (c_now_shelves_places : Int32) (c_now_shelves_lot : Nat → Int32) (c_now_shelves_pieces : Nat → Int32) (c_now_lots_count : Int32) (c_now_lots_last : Nat → Int32) (c_rest : Nat → Int32) (n1 : Int64) (n3 : Int64) (n5 : Int32) : Option ((Int64 × Int64 × Int32) ⊕ (Int64 × Int64)) :=
  (if c_now_lots_count ≤ n5 then some (.inr (n1, n3))
  else gd n5 24 (gd n5 24 (gd n5 24 (some (.inl (n1 + ((((c_now_lots_last n5.toNatClampNeg) - c_now_today).toInt64) * ((c_rest n5.toNatClampNeg).toInt64)), n3 + ((c_rest n5.toNatClampNeg).toInt64), n5 + 1))))))
def f_X7_meanLife (c_now_today : Int32) (c_now_shelves_places : Int32) (c_now_shelves_lot : Nat → Int32) (c_now_shelves_pieces : Nat → Int32) (c_now_lots_count : Int32) (c_now_lots_last : Nat → Int32) (c_rest : Nat → Int32) : Option (UInt64 × (Nat → Int32)) :=
  bnd1 (f_X5_countLots c_now_shelves_places c_now_shelves_lot c_now_shelves_pieces c_rest) (fun o3 =>
  ((bnd2 (loop (fun z => f_X7_meanLife_L21 c_now_today c_now_shelves_places c_now_shelves_lot c_now_shelves_pieces c_now_lots_count c_now_lots_last o3 z.1 z.2.1 z.2.2) fu (0, 0, 0)) fun m9 m10 =>
  (if (lg_cmp m10 0) = 0 then some (0, o3)
  else some (FP.ddiv (FP.l2d m9) (FP.l2d m10), o3)))))
def f_X7_givenShare_L6 (c_now_orders_count : Int32) (c_now_orders_open : Nat → Int32) (c_now_orders_had : Nat → Int32) (n1 : Int32) (n2 : Int32) (n3 : Int32) : Option ((Int32 × Int32 × Int32) ⊕ (Int32 × Int32)) :=
  (if c_now_orders_count ≤ n3 then some (.inr (n1, n2))
  else bnd1 (f_X2_piecesAt n3 c_now_orders_count c_now_orders_had) (fun r2 =>
  (gd n3 40 (some (.inl (n1 + r2, n2 + (c_now_orders_open n3.toNatClampNeg), n3 + 1))))))
def f_X7_givenShare (c_now_orders_count : Int32) (c_now_orders_open : Nat → Int32) (c_now_orders_had : Nat → Int32) : Option (UInt32) :=
  (bnd2 (loop (fun z => f_X7_givenShare_L6 c_now_orders_count c_now_orders_open c_now_orders_had z.1 z.2.1 z.2.2) fu (0, 0, 0)) fun m6 m7 =>
  (if (m6 + m7) = 0 then some 0
  else some (FP.fdiv (FP.i2f m6) (FP.i2f (m6 + m7)))))
def f_Y8_meanLife_L9_J65 (n2 : Int32) (t0 : Int32) (t1 : Int32) (c_raised : Int32) (c_w : Nat → Int32) : Option ((Int32 × Int32) ⊕ Int32) :=
  some (.inl (t0 + t1, n2 + 1))
def f_Y8_meanLife_L9 (c_raised : Int32) (c_w : Nat → Int32) (n1 : Int32) (n2 : Int32) : Option ((Int32 × Int32) ⊕ Int32) :=
  bnd1 (f_Y8_places c_w) (fun r1 =>
  ((if r1 ≤ n2 then some (.inr n1)
  else bnd1 (f_Y8_isFree n2 c_w) (fun r4 =>
  ((if r4 = 0 then gd (63 + n2) 2450 (gd (15 + n2) 2450 (gd (231 + (c_w (15 + n2).toNatClampNeg)) 2450 (gd 0 2450 (f_Y8_meanLife_L9_J65 n2 n1 ((c_w (63 + n2).toNatClampNeg) * ((c_w (231 + (c_w (15 + n2).toNatClampNeg)).toNatClampNeg) - (c_w (0 : Int32).toNatClampNeg))) c_raised c_w))))
  else f_Y8_meanLife_L9_J65 n2 n1 0 c_raised c_w))))))
def f_Y8_meanLife_J88 (n1 : Int32) (t0 : Int32) (c_raised : Int32) (c_w : Nat → Int32) : Option (UInt64 × Int32) :=
  some (FP.ddiv (FP.i2d n1) (FP.i2d t0), c_raised)
def f_Y8_meanLife (c_raised : Int32) (c_w : Nat → Int32) : Option (UInt64 × Int32) :=
  (bnd1 (loop (fun z => f_Y8_meanLife_L9 0 c_w z.1 z.2) fu (0, 0)) fun m12 =>
  bnd1 (f_Y8_allPieces c_w) (fun r13 =>
  ((if r13 = 0 then f_Y8_meanLife_J88 m12 1 0 c_w
  else bnd1 (f_Y8_allPieces c_w) (fun r16 =>
  (f_Y8_meanLife_J88 m12 r16 0 c_w))))))
def f_Y8_givenShare_L11 (c_raised : Int32) (c_w : Nat → Int32) (n1 : Int32) (n2 : Int32) (n3 : Int32) : Option ((Int32 × Int32 × Int32) ⊕ (Int32 × Int32)) :=
  gd 7 2450 ((if (c_w (7 : Int32).toNatClampNeg) ≤ n3 then some (.inr (n1, n2))
  else bnd1 (f_Y8_hasAll n3 c_w) (fun r3 =>
  (gd (383 + n3) 2450 (some (.inl (n1 + r3, n2 + (c_w (383 + n3).toNatClampNeg), n3 + 1)))))))
def f_Y8_givenShare (c_raised : Int32) (c_w : Nat → Int32) : Option (UInt32 × Int32) :=
  (bnd2 (loop (fun z => f_Y8_givenShare_L11 0 c_w z.1 z.2.1 z.2.2) fu (0, 0, 0)) fun m7 m8 =>
  (if (m7 + m8) = 0 then some (0, 0)
  else some (FP.fdiv (FP.i2f m7) (FP.i2f (m7 + m8)), 0)))
def f_W_addItem (v1 : Int32) (cp1_acts : Int32) (cp1_nextSlot : Int32) (cp1_hk : Nat) (cp1_st : Nat → StT) (cp1_now_today : Int32) (cp1_now_products : Int32) (cp1_now_itemCount : Int32) (cp1_now_items : Nat → Int32) (cp1_now_books : Nat → Int32) (cp1_now_terms : Nat → Int32) (cp1_now_shelves_lanes : Int32) (cp1_now_shelves_positions : Int32) (cp1_now_shelves_room : Int32) (cp1_now_shelves_gap : Int32) (cp1_now_shelves_places : Int32) (cp1_now_shelves_picked : Int64) (cp1_now_shelves_lot : Nat → Int32) (cp1_now_shelves_pieces : Nat → Int32) (cp1_now_shelves_mark : Nat → Int32) (cp1_now_shelves_byDistance : Nat → Int32) (cp1_now_lots_count : Int32) (cp1_now_lots_product : Nat → Int32) (cp1_now_lots_last : Nat → Int32) (cp1_now_lots_cost : Nat → Int32) (cp1_now_lots_state : Nat → Int32) (cp1_now_lots_byLast : Nat → Int32) (cp1_now_orders_count : Int32) (cp1_now_orders_gifts : Int32) (cp1_now_orders_customer : Nat → Int32) (cp1_now_orders_product : Nat → Int32) (cp1_now_orders_open : Nat → Int32) (cp1_now_orders_due : Nat → Int32) (cp1_now_orders_life : Nat → Int32) (cp1_now_orders_byDue : Nat → Int32) (cp1_now_orders_had : Nat → Int32) (cp1_now_orders_stamps : Nat → Int32) (cp3 : Nat → Int64) : Option (Int32 × Int32 × Int32 × Nat × (Nat → StT) × Int32 × (Nat → Int32) × (Nat → Int64)) :=
  bnd7 (f_X7_addItem v1 cp1_acts cp1_nextSlot cp1_hk cp1_st cp1_now_today cp1_now_products cp1_now_itemCount cp1_now_items cp1_now_books cp1_now_terms cp1_now_shelves_lanes cp1_now_shelves_positions cp1_now_shelves_room cp1_now_shelves_gap cp1_now_shelves_places cp1_now_shelves_picked cp1_now_shelves_lot cp1_now_shelves_pieces cp1_now_shelves_mark cp1_now_shelves_byDistance cp1_now_lots_count cp1_now_lots_product cp1_now_lots_last cp1_now_lots_cost cp1_now_lots_state cp1_now_lots_byLast cp1_now_orders_count cp1_now_orders_gifts cp1_now_orders_customer cp1_now_orders_product cp1_now_orders_open cp1_now_orders_due cp1_now_orders_life cp1_now_orders_byDue cp1_now_orders_had cp1_now_orders_stamps) (fun r1 o3 o4 o5 o6 o7 o8 => mx r1 (fun E9 => (if E9 = "java/lang/IllegalArgumentException" then some (1, o3, o4, o5, o6, o7, o8, cp3)
  else (if E9 = "java/lang/IllegalStateException" then some (2, o3, o4, o5, o6, o7, o8, cp3)
  else none))) (fun r1v =>
  (gd 0 1 (some (0, o3, o4, o5, o6, o7, o8, vp_updL cp3 (0 : Int32).toNatClampNeg r1v.toInt64)))))
def f_W_addProduct (cp1_acts : Int32) (cp1_nextSlot : Int32) (cp1_hk : Nat) (cp1_st : Nat → StT) (cp1_now_today : Int32) (cp1_now_products : Int32) (cp1_now_itemCount : Int32) (cp1_now_items : Nat → Int32) (cp1_now_books : Nat → Int32) (cp1_now_terms : Nat → Int32) (cp1_now_shelves_lanes : Int32) (cp1_now_shelves_positions : Int32) (cp1_now_shelves_room : Int32) (cp1_now_shelves_gap : Int32) (cp1_now_shelves_places : Int32) (cp1_now_shelves_picked : Int64) (cp1_now_shelves_lot : Nat → Int32) (cp1_now_shelves_pieces : Nat → Int32) (cp1_now_shelves_mark : Nat → Int32) (cp1_now_shelves_byDistance : Nat → Int32) (cp1_now_lots_count : Int32) (cp1_now_lots_product : Nat → Int32) (cp1_now_lots_last : Nat → Int32) (cp1_now_lots_cost : Nat → Int32) (cp1_now_lots_state : Nat → Int32) (cp1_now_lots_byLast : Nat → Int32) (cp1_now_orders_count : Int32) (cp1_now_orders_gifts : Int32) (cp1_now_orders_customer : Nat → Int32) (cp1_now_orders_product : Nat → Int32) (cp1_now_orders_open : Nat → Int32) (cp1_now_orders_due : Nat → Int32) (cp1_now_orders_life : Nat → Int32) (cp1_now_orders_byDue : Nat → Int32) (cp1_now_orders_had : Nat → Int32) (cp1_now_orders_stamps : Nat → Int32) (cp2 : Nat → Int64) : Option (Int32 × Int32 × Int32 × Nat × (Nat → StT) × Int32 × (Nat → Int64)) :=
  bnd6 (f_X7_addProduct cp1_acts cp1_nextSlot cp1_hk cp1_st cp1_now_today cp1_now_products cp1_now_itemCount cp1_now_items cp1_now_books cp1_now_terms cp1_now_shelves_lanes cp1_now_shelves_positions cp1_now_shelves_room cp1_now_shelves_gap cp1_now_shelves_places cp1_now_shelves_picked cp1_now_shelves_lot cp1_now_shelves_pieces cp1_now_shelves_mark cp1_now_shelves_byDistance cp1_now_lots_count cp1_now_lots_product cp1_now_lots_last cp1_now_lots_cost cp1_now_lots_state cp1_now_lots_byLast cp1_now_orders_count cp1_now_orders_gifts cp1_now_orders_customer cp1_now_orders_product cp1_now_orders_open cp1_now_orders_due cp1_now_orders_life cp1_now_orders_byDue cp1_now_orders_had cp1_now_orders_stamps) (fun r1 o3 o4 o5 o6 o7 => mx r1 (fun E8 => (if E8 = "java/lang/IllegalStateException" then some (1, o3, o4, o5, o6, o7, cp2)
  else none)) (fun r1v =>
  (gd 0 1 (some (0, o3, o4, o5, o6, o7, vp_updL cp2 (0 : Int32).toNatClampNeg r1v.toInt64)))))
def f_W_bestAct (v1 : Int32) (v2 : Int32) (cp1_now_terms : Nat → Int32) (cp1_plan_terms : Nat → Int32) (cp1_plan_low : Nat → Int32) (cp1_plan_high : Nat → Int32) (cp1_plan_bottom : Nat → Int64) (cp1_plan_cost : Nat → Int64) (cp1_plan_act : Nat → Int32) (cp4 : Nat → Int64) : Option (Int32 × (Nat → Int32) × (Nat → Int32) × (Nat → Int32) × (Nat → Int64) × (Nat → Int64) × (Nat → Int32) × (Nat → Int64)) :=
  bnd7 (f_X7_bestAct v1 v2 cp1_now_terms cp1_plan_terms cp1_plan_low cp1_plan_high cp1_plan_bottom cp1_plan_cost cp1_plan_act) (fun r1 o3 o4 o5 o6 o7 o8 => mx r1 (fun E9 => (if E9 = "java/lang/IllegalArgumentException" then some (1, o3, o4, o5, o6, o7, o8, cp4)
  else none)) (fun r1v =>
  (gd 0 1 (some (0, o3, o4, o5, o6, o7, o8, vp_updL cp4 (0 : Int32).toNatClampNeg r1v.toInt64)))))
def f_W_book (v1 : Int32) (cp1_now_books : Nat → Int32) (cp1_now_shelves_places : Int32) (cp1_now_shelves_pieces : Nat → Int32) (cp3 : Nat → Int64) : Option (Int32 × (Nat → Int64)) :=
  bnd1 (f_X7_book v1 cp1_now_books cp1_now_shelves_places cp1_now_shelves_pieces) (fun r1 => mx r1 (fun E3 => (if E3 = "java/lang/IllegalArgumentException" then some (1, cp3)
  else none)) (fun r1v =>
  (gd 0 1 (some (0, vp_updL cp3 (0 : Int32).toNatClampNeg r1v.toInt64)))))
def f_W_boxBound (v1 : Int32) (cp1_now_itemCount : Int32) (cp1_now_items : Nat → Int32) (cp3 : Nat → Int64) : Option (Int32 × (Nat → Int64)) :=
  bnd1 (f_X7_boxBound v1 cp1_now_itemCount cp1_now_items) (fun r1 => mx r1 (fun E3 => (if E3 = "java/lang/IllegalArgumentException" then some (1, cp3)
  else none)) (fun r1v =>
  (gd 0 1 (some (0, vp_updL cp3 (0 : Int32).toNatClampNeg r1v.toInt64)))))
def f_W_boxes (v1 : Int32) (cp1_now_itemCount : Int32) (cp1_now_items : Nat → Int32) (cp1_packed : Nat → Int32) (cp3 : Nat → Int64) : Option (Int32 × (Nat → Int32) × (Nat → Int64)) :=
  bnd2 (f_X7_boxes v1 cp1_now_itemCount cp1_now_items cp1_packed) (fun r1 o3 => mx r1 (fun E4 => (if E4 = "java/lang/IllegalArgumentException" then some (1, o3, cp3)
  else none)) (fun r1v =>
  (gd 0 1 (some (0, o3, vp_updL cp3 (0 : Int32).toNatClampNeg r1v.toInt64)))))
def f_W_cancel (v1 : Int32) (cp1_acts : Int32) (cp1_nextSlot : Int32) (cp1_hk : Nat) (cp1_st : Nat → StT) (cp1_now_today : Int32) (cp1_now_products : Int32) (cp1_now_itemCount : Int32) (cp1_now_items : Nat → Int32) (cp1_now_books : Nat → Int32) (cp1_now_terms : Nat → Int32) (cp1_now_shelves_lanes : Int32) (cp1_now_shelves_positions : Int32) (cp1_now_shelves_room : Int32) (cp1_now_shelves_gap : Int32) (cp1_now_shelves_places : Int32) (cp1_now_shelves_picked : Int64) (cp1_now_shelves_lot : Nat → Int32) (cp1_now_shelves_pieces : Nat → Int32) (cp1_now_shelves_mark : Nat → Int32) (cp1_now_shelves_byDistance : Nat → Int32) (cp1_now_lots_count : Int32) (cp1_now_lots_product : Nat → Int32) (cp1_now_lots_last : Nat → Int32) (cp1_now_lots_cost : Nat → Int32) (cp1_now_lots_state : Nat → Int32) (cp1_now_lots_byLast : Nat → Int32) (cp1_now_orders_count : Int32) (cp1_now_orders_gifts : Int32) (cp1_now_orders_customer : Nat → Int32) (cp1_now_orders_product : Nat → Int32) (cp1_now_orders_open : Nat → Int32) (cp1_now_orders_due : Nat → Int32) (cp1_now_orders_life : Nat → Int32) (cp1_now_orders_byDue : Nat → Int32) (cp1_now_orders_had : Nat → Int32) (cp1_now_orders_stamps : Nat → Int32) (cp3 : Nat → Int64) : Option (Int32 × Int32 × Int32 × Nat × (Nat → StT) × (Nat → Int32) × (Nat → Int64)) :=
  bnd6 (f_X7_cancel v1 cp1_acts cp1_nextSlot cp1_hk cp1_st cp1_now_today cp1_now_products cp1_now_itemCount cp1_now_items cp1_now_books cp1_now_terms cp1_now_shelves_lanes cp1_now_shelves_positions cp1_now_shelves_room cp1_now_shelves_gap cp1_now_shelves_places cp1_now_shelves_picked cp1_now_shelves_lot cp1_now_shelves_pieces cp1_now_shelves_mark cp1_now_shelves_byDistance cp1_now_lots_count cp1_now_lots_product cp1_now_lots_last cp1_now_lots_cost cp1_now_lots_state cp1_now_lots_byLast cp1_now_orders_count cp1_now_orders_gifts cp1_now_orders_customer cp1_now_orders_product cp1_now_orders_open cp1_now_orders_due cp1_now_orders_life cp1_now_orders_byDue cp1_now_orders_had cp1_now_orders_stamps) (fun r1 o3 o4 o5 o6 o7 => mx r1 (fun E8 => (if E8 = "java/lang/IndexOutOfBoundsException" then some (1, o3, o4, o5, o6, o7, cp3)
  else none)) (fun r1v =>
  (gd 0 1 (some (0, o3, o4, o5, o6, o7, vp_updL cp3 (0 : Int32).toNatClampNeg r1v.toInt64)))))
def f_W_comeIn (v1 : Int32) (v2 : Int32) (v3 : Int32) (v4 : Int32) (cp1_acts : Int32) (cp1_nextSlot : Int32) (cp1_hk : Nat) (cp1_st : Nat → StT) (cp1_now_today : Int32) (cp1_now_products : Int32) (cp1_now_itemCount : Int32) (cp1_now_items : Nat → Int32) (cp1_now_books : Nat → Int32) (cp1_now_terms : Nat → Int32) (cp1_now_shelves_lanes : Int32) (cp1_now_shelves_positions : Int32) (cp1_now_shelves_room : Int32) (cp1_now_shelves_gap : Int32) (cp1_now_shelves_places : Int32) (cp1_now_shelves_picked : Int64) (cp1_now_shelves_lot : Nat → Int32) (cp1_now_shelves_pieces : Nat → Int32) (cp1_now_shelves_mark : Nat → Int32) (cp1_now_shelves_byDistance : Nat → Int32) (cp1_now_lots_count : Int32) (cp1_now_lots_product : Nat → Int32) (cp1_now_lots_last : Nat → Int32) (cp1_now_lots_cost : Nat → Int32) (cp1_now_lots_state : Nat → Int32) (cp1_now_lots_byLast : Nat → Int32) (cp1_now_orders_count : Int32) (cp1_now_orders_gifts : Int32) (cp1_now_orders_customer : Nat → Int32) (cp1_now_orders_product : Nat → Int32) (cp1_now_orders_open : Nat → Int32) (cp1_now_orders_due : Nat → Int32) (cp1_now_orders_life : Nat → Int32) (cp1_now_orders_byDue : Nat → Int32) (cp1_now_orders_had : Nat → Int32) (cp1_now_orders_stamps : Nat → Int32) (cp6 : Nat → Int64) : Option (Int32 × Int32 × Int32 × Nat × (Nat → StT) × (Nat → Int32) × (Nat → Int32) × (Nat → Int32) × (Nat → Int32) × Int32 × (Nat → Int32) × (Nat → Int32) × (Nat → Int32) × (Nat → Int32) × (Nat → Int32) × (Nat → Int64)) :=
  bnd15 (f_X7_comeIn v1 v2 v3 v4 cp1_acts cp1_nextSlot cp1_hk cp1_st cp1_now_today cp1_now_products cp1_now_itemCount cp1_now_items cp1_now_books cp1_now_terms cp1_now_shelves_lanes cp1_now_shelves_positions cp1_now_shelves_room cp1_now_shelves_gap cp1_now_shelves_places cp1_now_shelves_picked cp1_now_shelves_lot cp1_now_shelves_pieces cp1_now_shelves_mark cp1_now_shelves_byDistance cp1_now_lots_count cp1_now_lots_product cp1_now_lots_last cp1_now_lots_cost cp1_now_lots_state cp1_now_lots_byLast cp1_now_orders_count cp1_now_orders_gifts cp1_now_orders_customer cp1_now_orders_product cp1_now_orders_open cp1_now_orders_due cp1_now_orders_life cp1_now_orders_byDue cp1_now_orders_had cp1_now_orders_stamps) (fun r1 o3 o4 o5 o6 o7 o8 o9 o10 o11 o12 o13 o14 o15 o16 => mx r1 (fun E17 => (if E17 = "java/lang/IndexOutOfBoundsException" then some (1, o3, o4, o5, o6, o7, o8, o9, o10, o11, o12, o13, o14, o15, o16, cp6)
  else (if E17 = "java/lang/IllegalArgumentException" then some (2, o3, o4, o5, o6, o7, o8, o9, o10, o11, o12, o13, o14, o15, o16, cp6)
  else (if E17 = "java/lang/IllegalStateException" then some (3, o3, o4, o5, o6, o7, o8, o9, o10, o11, o12, o13, o14, o15, o16, cp6)
  else none)))) (fun r1v =>
  (gd 0 1 (some (0, o3, o4, o5, o6, o7, o8, o9, o10, o11, o12, o13, o14, o15, o16, vp_updL cp6 (0 : Int32).toNatClampNeg r1v.toInt64)))))
def f_W_count (v1 : Int32) (v2 : Int32) (cp1_acts : Int32) (cp1_nextSlot : Int32) (cp1_hk : Nat) (cp1_st : Nat → StT) (cp1_now_today : Int32) (cp1_now_products : Int32) (cp1_now_itemCount : Int32) (cp1_now_items : Nat → Int32) (cp1_now_books : Nat → Int32) (cp1_now_terms : Nat → Int32) (cp1_now_shelves_lanes : Int32) (cp1_now_shelves_positions : Int32) (cp1_now_shelves_room : Int32) (cp1_now_shelves_gap : Int32) (cp1_now_shelves_places : Int32) (cp1_now_shelves_picked : Int64) (cp1_now_shelves_lot : Nat → Int32) (cp1_now_shelves_pieces : Nat → Int32) (cp1_now_shelves_mark : Nat → Int32) (cp1_now_shelves_byDistance : Nat → Int32) (cp1_now_lots_count : Int32) (cp1_now_lots_product : Nat → Int32) (cp1_now_lots_last : Nat → Int32) (cp1_now_lots_cost : Nat → Int32) (cp1_now_lots_state : Nat → Int32) (cp1_now_lots_byLast : Nat → Int32) (cp1_now_orders_count : Int32) (cp1_now_orders_gifts : Int32) (cp1_now_orders_customer : Nat → Int32) (cp1_now_orders_product : Nat → Int32) (cp1_now_orders_open : Nat → Int32) (cp1_now_orders_due : Nat → Int32) (cp1_now_orders_life : Nat → Int32) (cp1_now_orders_byDue : Nat → Int32) (cp1_now_orders_had : Nat → Int32) (cp1_now_orders_stamps : Nat → Int32) (cp4 : Nat → Int64) : Option (Int32 × Int32 × Int32 × Nat × (Nat → StT) × (Nat → Int32) × (Nat → Int32) × (Nat → Int32) × (Nat → Int32) × (Nat → Int64)) :=
  bnd9 (f_X7_count v1 v2 cp1_acts cp1_nextSlot cp1_hk cp1_st cp1_now_today cp1_now_products cp1_now_itemCount cp1_now_items cp1_now_books cp1_now_terms cp1_now_shelves_lanes cp1_now_shelves_positions cp1_now_shelves_room cp1_now_shelves_gap cp1_now_shelves_places cp1_now_shelves_picked cp1_now_shelves_lot cp1_now_shelves_pieces cp1_now_shelves_mark cp1_now_shelves_byDistance cp1_now_lots_count cp1_now_lots_product cp1_now_lots_last cp1_now_lots_cost cp1_now_lots_state cp1_now_lots_byLast cp1_now_orders_count cp1_now_orders_gifts cp1_now_orders_customer cp1_now_orders_product cp1_now_orders_open cp1_now_orders_due cp1_now_orders_life cp1_now_orders_byDue cp1_now_orders_had cp1_now_orders_stamps) (fun r1 o3 o4 o5 o6 o7 o8 o9 o10 => mx r1 (fun E11 => (if E11 = "java/lang/IndexOutOfBoundsException" then some (1, o3, o4, o5, o6, o7, o8, o9, o10, cp4)
  else (if E11 = "java/lang/IllegalArgumentException" then some (2, o3, o4, o5, o6, o7, o8, o9, o10, cp4)
  else (if E11 = "java/lang/IllegalStateException" then some (3, o3, o4, o5, o6, o7, o8, o9, o10, cp4)
  else none)))) (fun r1v =>
  (gd 0 1 (some (0, o3, o4, o5, o6, o7, o8, o9, o10, vp_updL cp4 (0 : Int32).toNatClampNeg r1v.toInt64)))))
def f_W_customersOf (v1 : Int32) (cp1_now_lots_count : Int32) (cp1_now_orders_count : Int32) (cp1_now_orders_customer : Nat → Int32) (cp1_now_orders_had : Nat → Int32) (cp3 : Nat → Int64) : Option (Int32 × (Nat → Int64)) :=
  bnd1 (f_X7_customersOf v1 cp1_now_lots_count cp1_now_orders_count cp1_now_orders_customer cp1_now_orders_had) (fun r1 => mx r1 (fun E3 => (if E3 = "java/lang/IndexOutOfBoundsException" then some (1, cp3)
  else none)) (fun r1v =>
  (gd 0 1 (some (0, vp_updL cp3 (0 : Int32).toNatClampNeg r1v.toInt64)))))
def f_W_dateOf (v1 : Int32) (cp3 : Nat → Int64) : Option (Int32 × (Nat → Int64)) :=
  bnd1 (f_X7_dateOf v1) (fun r1 => mx r1 (fun E3 => (if E3 = "java/lang/IllegalArgumentException" then some (1, cp3)
  else none)) (fun r1v =>
  (gd 0 1 (some (0, vp_updL cp3 (0 : Int32).toNatClampNeg r1v.toInt64)))))
def f_W_dayOf (v1 : Int32) (v2 : Int32) (v3 : Int32) (cp5 : Nat → Int64) : Option (Int32 × (Nat → Int64)) :=
  bnd1 (f_X7_dayOf v1 v2 v3) (fun r1 => mx r1 (fun E3 => (if E3 = "java/lang/IllegalArgumentException" then some (1, cp5)
  else none)) (fun r1v =>
  (gd 0 1 (some (0, vp_updL cp5 (0 : Int32).toNatClampNeg r1v.toInt64)))))
def f_W_difference (v1 : Int32) (v2 : Int32) (cp1_now_products : Int32) (cp1_now_shelves_places : Int32) (cp1_now_shelves_lot : Nat → Int32) (cp1_now_shelves_pieces : Nat → Int32) (cp1_now_lots_count : Int32) (cp1_now_lots_product : Nat → Int32) (cp1_now_lots_last : Nat → Int32) (cp1_now_lots_state : Nat → Int32) (cp1_now_orders_count : Int32) (cp1_now_orders_product : Nat → Int32) (cp1_now_orders_open : Nat → Int32) (cp1_now_orders_due : Nat → Int32) (cp1_now_orders_life : Nat → Int32) (cp1_rest : Nat → Int32) (cp4 : Nat → Int64) : Option (Int32 × (Nat → Int32) × (Nat → Int64)) :=
  bnd2 (f_X7_difference v1 v2 cp1_now_products cp1_now_shelves_places cp1_now_shelves_lot cp1_now_shelves_pieces cp1_now_lots_count cp1_now_lots_product cp1_now_lots_last cp1_now_lots_state cp1_now_orders_count cp1_now_orders_product cp1_now_orders_open cp1_now_orders_due cp1_now_orders_life cp1_rest) (fun r1 o3 => mx r1 (fun E4 => (if E4 = "java/lang/IndexOutOfBoundsException" then some (1, o3, cp4)
  else (if E4 = "java/lang/IllegalArgumentException" then some (2, o3, cp4)
  else none))) (fun r1v =>
  (gd 0 1 (some (0, o3, vp_updL cp4 (0 : Int32).toNatClampNeg r1v.toInt64)))))
def f_W_firstFree (cp1_now_shelves_places : Int32) (cp1_now_shelves_pieces : Nat → Int32) (cp1_now_shelves_byDistance : Nat → Int32) (cp2 : Nat → Int64) : Option (Int32 × (Nat → Int64)) :=
  bnd1 (f_X7_firstFree cp1_now_shelves_places cp1_now_shelves_pieces cp1_now_shelves_byDistance) (fun r1 => mx r1 (fun E3 => (if E3 = "java/util/NoSuchElementException" then some (1, cp2)
  else none)) (fun r1v =>
  (gd 0 1 (some (0, vp_updL cp2 (0 : Int32).toNatClampNeg r1v.toInt64)))))
def f_W_giveBack (v1 : Int32) (v2 : Int32) (cp1_acts : Int32) (cp1_nextSlot : Int32) (cp1_hk : Nat) (cp1_st : Nat → StT) (cp1_now_today : Int32) (cp1_now_products : Int32) (cp1_now_itemCount : Int32) (cp1_now_items : Nat → Int32) (cp1_now_books : Nat → Int32) (cp1_now_terms : Nat → Int32) (cp1_now_shelves_lanes : Int32) (cp1_now_shelves_positions : Int32) (cp1_now_shelves_room : Int32) (cp1_now_shelves_gap : Int32) (cp1_now_shelves_places : Int32) (cp1_now_shelves_picked : Int64) (cp1_now_shelves_lot : Nat → Int32) (cp1_now_shelves_pieces : Nat → Int32) (cp1_now_shelves_mark : Nat → Int32) (cp1_now_shelves_byDistance : Nat → Int32) (cp1_now_lots_count : Int32) (cp1_now_lots_product : Nat → Int32) (cp1_now_lots_last : Nat → Int32) (cp1_now_lots_cost : Nat → Int32) (cp1_now_lots_state : Nat → Int32) (cp1_now_lots_byLast : Nat → Int32) (cp1_now_orders_count : Int32) (cp1_now_orders_gifts : Int32) (cp1_now_orders_customer : Nat → Int32) (cp1_now_orders_product : Nat → Int32) (cp1_now_orders_open : Nat → Int32) (cp1_now_orders_due : Nat → Int32) (cp1_now_orders_life : Nat → Int32) (cp1_now_orders_byDue : Nat → Int32) (cp1_now_orders_had : Nat → Int32) (cp1_now_orders_stamps : Nat → Int32) (cp4 : Nat → Int64) : Option (Int32 × Int32 × Int32 × Nat × (Nat → StT) × (Nat → Int32) × (Nat → Int32) × (Nat → Int32) × (Nat → Int32) × (Nat → Int32) × (Nat → Int64)) :=
  bnd10 (f_X7_giveBack v1 v2 cp1_acts cp1_nextSlot cp1_hk cp1_st cp1_now_today cp1_now_products cp1_now_itemCount cp1_now_items cp1_now_books cp1_now_terms cp1_now_shelves_lanes cp1_now_shelves_positions cp1_now_shelves_room cp1_now_shelves_gap cp1_now_shelves_places cp1_now_shelves_picked cp1_now_shelves_lot cp1_now_shelves_pieces cp1_now_shelves_mark cp1_now_shelves_byDistance cp1_now_lots_count cp1_now_lots_product cp1_now_lots_last cp1_now_lots_cost cp1_now_lots_state cp1_now_lots_byLast cp1_now_orders_count cp1_now_orders_gifts cp1_now_orders_customer cp1_now_orders_product cp1_now_orders_open cp1_now_orders_due cp1_now_orders_life cp1_now_orders_byDue cp1_now_orders_had cp1_now_orders_stamps) (fun r1 o3 o4 o5 o6 o7 o8 o9 o10 o11 => mx r1 (fun E12 => (if E12 = "java/lang/IndexOutOfBoundsException" then some (1, o3, o4, o5, o6, o7, o8, o9, o10, o11, cp4)
  else (if E12 = "java/lang/IllegalArgumentException" then some (2, o3, o4, o5, o6, o7, o8, o9, o10, o11, cp4)
  else (if E12 = "java/lang/IllegalStateException" then some (3, o3, o4, o5, o6, o7, o8, o9, o10, o11, cp4)
  else none)))) (fun r1v =>
  (gd 0 1 (some (0, o3, o4, o5, o6, o7, o8, o9, o10, o11, vp_updL cp4 (0 : Int32).toNatClampNeg r1v.toInt64)))))
def f_W_highBound (v1 : Int32) (cp1_now_terms : Nat → Int32) (cp1_plan_terms : Nat → Int32) (cp1_plan_low : Nat → Int32) (cp1_plan_high : Nat → Int32) (cp1_plan_bottom : Nat → Int64) (cp1_plan_cost : Nat → Int64) (cp1_plan_act : Nat → Int32) (cp3 : Nat → Int64) : Option (Int32 × (Nat → Int32) × (Nat → Int32) × (Nat → Int32) × (Nat → Int64) × (Nat → Int64) × (Nat → Int32) × (Nat → Int64)) :=
  bnd7 (f_X7_highBound v1 cp1_now_terms cp1_plan_terms cp1_plan_low cp1_plan_high cp1_plan_bottom cp1_plan_cost cp1_plan_act) (fun r1 o3 o4 o5 o6 o7 o8 => mx r1 (fun E9 => (if E9 = "java/lang/IllegalArgumentException" then some (1, o3, o4, o5, o6, o7, o8, cp3)
  else none)) (fun r1v =>
  (gd 0 1 (some (0, o3, o4, o5, o6, o7, o8, vp_updL cp3 (0 : Int32).toNatClampNeg r1v.toInt64)))))
def f_W_hold_J16 (t1 : Int32) (t2 : Int64) (cp1_acts : Int32) (cp1_nextSlot : Int32) (cp1_hk : Nat) (cp1_st : Nat → StT) (cp1_now_today : Int32) (cp1_now_products : Int32) (cp1_now_itemCount : Int32) (cp1_now_items : Nat → Int32) (cp1_now_books : Nat → Int32) (cp1_now_terms : Nat → Int32) (cp1_now_shelves_lanes : Int32) (cp1_now_shelves_positions : Int32) (cp1_now_shelves_room : Int32) (cp1_now_shelves_gap : Int32) (cp1_now_shelves_places : Int32) (cp1_now_shelves_picked : Int64) (cp1_now_shelves_lot : Nat → Int32) (cp1_now_shelves_pieces : Nat → Int32) (cp1_now_shelves_mark : Nat → Int32) (cp1_now_shelves_byDistance : Nat → Int32) (cp1_now_lots_count : Int32) (cp1_now_lots_product : Nat → Int32) (cp1_now_lots_last : Nat → Int32) (cp1_now_lots_cost : Nat → Int32) (cp1_now_lots_state : Nat → Int32) (cp1_now_lots_byLast : Nat → Int32) (cp1_now_orders_count : Int32) (cp1_now_orders_gifts : Int32) (cp1_now_orders_customer : Nat → Int32) (cp1_now_orders_product : Nat → Int32) (cp1_now_orders_open : Nat → Int32) (cp1_now_orders_due : Nat → Int32) (cp1_now_orders_life : Nat → Int32) (cp1_now_orders_byDue : Nat → Int32) (cp1_now_orders_had : Nat → Int32) (cp1_now_orders_stamps : Nat → Int32) (cp4 : Nat → Int64) : Option (Int32 × Int32 × Int32 × Nat × (Nat → StT) × (Nat → Int32) × (Nat → Int64)) :=
  gd t1 1 (some (0, cp1_acts, cp1_nextSlot, cp1_hk, cp1_st, cp1_now_lots_state, vp_updL cp4 t1.toNatClampNeg t2))
def f_W_hold (v1 : Int32) (v2 : Int32) (cp1_acts : Int32) (cp1_nextSlot : Int32) (cp1_hk : Nat) (cp1_st : Nat → StT) (cp1_now_today : Int32) (cp1_now_products : Int32) (cp1_now_itemCount : Int32) (cp1_now_items : Nat → Int32) (cp1_now_books : Nat → Int32) (cp1_now_terms : Nat → Int32) (cp1_now_shelves_lanes : Int32) (cp1_now_shelves_positions : Int32) (cp1_now_shelves_room : Int32) (cp1_now_shelves_gap : Int32) (cp1_now_shelves_places : Int32) (cp1_now_shelves_picked : Int64) (cp1_now_shelves_lot : Nat → Int32) (cp1_now_shelves_pieces : Nat → Int32) (cp1_now_shelves_mark : Nat → Int32) (cp1_now_shelves_byDistance : Nat → Int32) (cp1_now_lots_count : Int32) (cp1_now_lots_product : Nat → Int32) (cp1_now_lots_last : Nat → Int32) (cp1_now_lots_cost : Nat → Int32) (cp1_now_lots_state : Nat → Int32) (cp1_now_lots_byLast : Nat → Int32) (cp1_now_orders_count : Int32) (cp1_now_orders_gifts : Int32) (cp1_now_orders_customer : Nat → Int32) (cp1_now_orders_product : Nat → Int32) (cp1_now_orders_open : Nat → Int32) (cp1_now_orders_due : Nat → Int32) (cp1_now_orders_life : Nat → Int32) (cp1_now_orders_byDue : Nat → Int32) (cp1_now_orders_had : Nat → Int32) (cp1_now_orders_stamps : Nat → Int32) (cp4 : Nat → Int64) : Option (Int32 × Int32 × Int32 × Nat × (Nat → StT) × (Nat → Int32) × (Nat → Int64)) :=
  bnd6 (f_X7_hold v1 v2 cp1_acts cp1_nextSlot cp1_hk cp1_st cp1_now_today cp1_now_products cp1_now_itemCount cp1_now_items cp1_now_books cp1_now_terms cp1_now_shelves_lanes cp1_now_shelves_positions cp1_now_shelves_room cp1_now_shelves_gap cp1_now_shelves_places cp1_now_shelves_picked cp1_now_shelves_lot cp1_now_shelves_pieces cp1_now_shelves_mark cp1_now_shelves_byDistance cp1_now_lots_count cp1_now_lots_product cp1_now_lots_last cp1_now_lots_cost cp1_now_lots_state cp1_now_lots_byLast cp1_now_orders_count cp1_now_orders_gifts cp1_now_orders_customer cp1_now_orders_product cp1_now_orders_open cp1_now_orders_due cp1_now_orders_life cp1_now_orders_byDue cp1_now_orders_had cp1_now_orders_stamps) (fun r1 o3 o4 o5 o6 o7 => mx r1 (fun E8 => (if E8 = "java/lang/IndexOutOfBoundsException" then some (1, o3, o4, o5, o6, o7, cp4)
  else (if E8 = "java/lang/IllegalStateException" then some (2, o3, o4, o5, o6, o7, cp4)
  else none))) (fun r1v =>
  ((if r1v = 0 then f_W_hold_J16 0 0 o3 o4 o5 o6 cp1_now_today cp1_now_products cp1_now_itemCount cp1_now_items cp1_now_books cp1_now_terms cp1_now_shelves_lanes cp1_now_shelves_positions cp1_now_shelves_room cp1_now_shelves_gap cp1_now_shelves_places cp1_now_shelves_picked cp1_now_shelves_lot cp1_now_shelves_pieces cp1_now_shelves_mark cp1_now_shelves_byDistance cp1_now_lots_count cp1_now_lots_product cp1_now_lots_last cp1_now_lots_cost o7 cp1_now_lots_byLast cp1_now_orders_count cp1_now_orders_gifts cp1_now_orders_customer cp1_now_orders_product cp1_now_orders_open cp1_now_orders_due cp1_now_orders_life cp1_now_orders_byDue cp1_now_orders_had cp1_now_orders_stamps cp4
  else f_W_hold_J16 0 1 o3 o4 o5 o6 cp1_now_today cp1_now_products cp1_now_itemCount cp1_now_items cp1_now_books cp1_now_terms cp1_now_shelves_lanes cp1_now_shelves_positions cp1_now_shelves_room cp1_now_shelves_gap cp1_now_shelves_places cp1_now_shelves_picked cp1_now_shelves_lot cp1_now_shelves_pieces cp1_now_shelves_mark cp1_now_shelves_byDistance cp1_now_lots_count cp1_now_lots_product cp1_now_lots_last cp1_now_lots_cost o7 cp1_now_lots_byLast cp1_now_orders_count cp1_now_orders_gifts cp1_now_orders_customer cp1_now_orders_product cp1_now_orders_open cp1_now_orders_due cp1_now_orders_life cp1_now_orders_byDue cp1_now_orders_had cp1_now_orders_stamps cp4))))
def f_W_lotAt (v1 : Int32) (v2 : Int32) (cp1_now_shelves_places : Int32) (cp1_now_shelves_lot : Nat → Int32) (cp1_now_shelves_pieces : Nat → Int32) (cp1_now_lots_count : Int32) (cp1_now_lots_product : Nat → Int32) (cp1_now_lots_last : Nat → Int32) (cp1_now_lots_cost : Nat → Int32) (cp1_now_lots_state : Nat → Int32) (cp1_now_orders_count : Int32) (cp1_now_orders_had : Nat → Int32) (cp4 : Nat → Int64) : Option (Int32 × (Nat → Int64)) :=
  bnd1 (f_X7_lotAt v1 v2 cp1_now_shelves_places cp1_now_shelves_lot cp1_now_shelves_pieces cp1_now_lots_count cp1_now_lots_product cp1_now_lots_last cp1_now_lots_cost cp1_now_lots_state cp1_now_orders_count cp1_now_orders_had) (fun r1 => mx r1 (fun E3 => (if E3 = "java/lang/IndexOutOfBoundsException" then some (1, cp4)
  else (if E3 = "java/lang/IllegalArgumentException" then some (2, cp4)
  else none))) (fun r1v =>
  (gd 0 1 (some (0, vp_updL cp4 (0 : Int32).toNatClampNeg r1v.toInt64)))))
def f_W_lotsOf (v1 : Int32) (cp1_now_lots_count : Int32) (cp1_now_orders_count : Int32) (cp1_now_orders_had : Nat → Int32) (cp3 : Nat → Int64) : Option (Int32 × (Nat → Int64)) :=
  bnd1 (f_X7_lotsOf v1 cp1_now_lots_count cp1_now_orders_count cp1_now_orders_had) (fun r1 => mx r1 (fun E3 => (if E3 = "java/lang/IndexOutOfBoundsException" then some (1, cp3)
  else none)) (fun r1v =>
  (gd 0 1 (some (0, vp_updL cp3 (0 : Int32).toNatClampNeg r1v.toInt64)))))
def f_W_lowBound (v1 : Int32) (cp1_now_terms : Nat → Int32) (cp1_plan_terms : Nat → Int32) (cp1_plan_low : Nat → Int32) (cp1_plan_high : Nat → Int32) (cp1_plan_bottom : Nat → Int64) (cp1_plan_cost : Nat → Int64) (cp1_plan_act : Nat → Int32) (cp3 : Nat → Int64) : Option (Int32 × (Nat → Int32) × (Nat → Int32) × (Nat → Int32) × (Nat → Int64) × (Nat → Int64) × (Nat → Int32) × (Nat → Int64)) :=
  bnd7 (f_X7_lowBound v1 cp1_now_terms cp1_plan_terms cp1_plan_low cp1_plan_high cp1_plan_bottom cp1_plan_cost cp1_plan_act) (fun r1 o3 o4 o5 o6 o7 o8 => mx r1 (fun E9 => (if E9 = "java/lang/IllegalArgumentException" then some (1, o3, o4, o5, o6, o7, o8, cp3)
  else none)) (fun r1v =>
  (gd 0 1 (some (0, o3, o4, o5, o6, o7, o8, vp_updL cp3 (0 : Int32).toNatClampNeg r1v.toInt64)))))
def f_W_move (v1 : Int32) (v2 : Int32) (cp1_acts : Int32) (cp1_nextSlot : Int32) (cp1_hk : Nat) (cp1_st : Nat → StT) (cp1_now_today : Int32) (cp1_now_products : Int32) (cp1_now_itemCount : Int32) (cp1_now_items : Nat → Int32) (cp1_now_books : Nat → Int32) (cp1_now_terms : Nat → Int32) (cp1_now_shelves_lanes : Int32) (cp1_now_shelves_positions : Int32) (cp1_now_shelves_room : Int32) (cp1_now_shelves_gap : Int32) (cp1_now_shelves_places : Int32) (cp1_now_shelves_picked : Int64) (cp1_now_shelves_lot : Nat → Int32) (cp1_now_shelves_pieces : Nat → Int32) (cp1_now_shelves_mark : Nat → Int32) (cp1_now_shelves_byDistance : Nat → Int32) (cp1_now_lots_count : Int32) (cp1_now_lots_product : Nat → Int32) (cp1_now_lots_last : Nat → Int32) (cp1_now_lots_cost : Nat → Int32) (cp1_now_lots_state : Nat → Int32) (cp1_now_lots_byLast : Nat → Int32) (cp1_now_orders_count : Int32) (cp1_now_orders_gifts : Int32) (cp1_now_orders_customer : Nat → Int32) (cp1_now_orders_product : Nat → Int32) (cp1_now_orders_open : Nat → Int32) (cp1_now_orders_due : Nat → Int32) (cp1_now_orders_life : Nat → Int32) (cp1_now_orders_byDue : Nat → Int32) (cp1_now_orders_had : Nat → Int32) (cp1_now_orders_stamps : Nat → Int32) (cp4 : Nat → Int64) : Option (Int32 × Int32 × Int32 × Nat × (Nat → StT) × (Nat → Int32) × (Nat → Int32) × (Nat → Int32) × (Nat → Int64)) :=
  bnd8 (f_X7_move v1 v2 cp1_acts cp1_nextSlot cp1_hk cp1_st cp1_now_today cp1_now_products cp1_now_itemCount cp1_now_items cp1_now_books cp1_now_terms cp1_now_shelves_lanes cp1_now_shelves_positions cp1_now_shelves_room cp1_now_shelves_gap cp1_now_shelves_places cp1_now_shelves_picked cp1_now_shelves_lot cp1_now_shelves_pieces cp1_now_shelves_mark cp1_now_shelves_byDistance cp1_now_lots_count cp1_now_lots_product cp1_now_lots_last cp1_now_lots_cost cp1_now_lots_state cp1_now_lots_byLast cp1_now_orders_count cp1_now_orders_gifts cp1_now_orders_customer cp1_now_orders_product cp1_now_orders_open cp1_now_orders_due cp1_now_orders_life cp1_now_orders_byDue cp1_now_orders_had cp1_now_orders_stamps) (fun r1 o3 o4 o5 o6 o7 o8 o9 => mx r1 (fun E10 => (if E10 = "java/lang/IndexOutOfBoundsException" then some (1, o3, o4, o5, o6, o7, o8, o9, cp4)
  else (if E10 = "java/lang/IllegalArgumentException" then some (2, o3, o4, o5, o6, o7, o8, o9, cp4)
  else (if E10 = "java/lang/IllegalStateException" then some (3, o3, o4, o5, o6, o7, o8, o9, cp4)
  else none)))) (fun r1v =>
  (gd 0 1 (some (0, o3, o4, o5, o6, o7, o8, o9, vp_updL cp4 (0 : Int32).toNatClampNeg r1v.toInt64)))))
def f_W_newHouse (v1 : Int32) (v2 : Int32) (v3 : Int32) (v4 : Int32) (cp1_acts : Int32) (cp1_nextSlot : Int32) (cp1_hk : Nat) (cp1_st : Nat → StT) (cp1_now_today : Int32) (cp1_now_products : Int32) (cp1_now_itemCount : Int32) (cp1_now_items : Nat → Int32) (cp1_now_books : Nat → Int32) (cp1_now_terms : Nat → Int32) (cp1_now_shelves_lanes : Int32) (cp1_now_shelves_positions : Int32) (cp1_now_shelves_room : Int32) (cp1_now_shelves_gap : Int32) (cp1_now_shelves_places : Int32) (cp1_now_shelves_picked : Int64) (cp1_now_shelves_lot : Nat → Int32) (cp1_now_shelves_pieces : Nat → Int32) (cp1_now_shelves_mark : Nat → Int32) (cp1_now_shelves_byDistance : Nat → Int32) (cp1_now_lots_count : Int32) (cp1_now_lots_product : Nat → Int32) (cp1_now_lots_last : Nat → Int32) (cp1_now_lots_cost : Nat → Int32) (cp1_now_lots_state : Nat → Int32) (cp1_now_lots_byLast : Nat → Int32) (cp1_now_orders_count : Int32) (cp1_now_orders_gifts : Int32) (cp1_now_orders_customer : Nat → Int32) (cp1_now_orders_product : Nat → Int32) (cp1_now_orders_open : Nat → Int32) (cp1_now_orders_due : Nat → Int32) (cp1_now_orders_life : Nat → Int32) (cp1_now_orders_byDue : Nat → Int32) (cp1_now_orders_had : Nat → Int32) (cp1_now_orders_stamps : Nat → Int32) (cp6 : Nat → Int64) : Option (Int32 × Int32 × Int32 × Nat × (Nat → StT) × Int32 × Int32 × (Nat → Int32) × Int32 × Int32 × Int32 × Int32 × Int32 × Int64 × (Nat → Int32) × (Nat → Int32) × (Nat → Int32) × (Nat → Int32) × Int32 × Int32 × Int32 × (Nat → Int64)) :=
  bnd21 (f_X7_newHouse v1 v2 v3 v4 cp1_acts cp1_nextSlot cp1_hk cp1_st cp1_now_today cp1_now_products cp1_now_itemCount cp1_now_items cp1_now_books cp1_now_terms cp1_now_shelves_lanes cp1_now_shelves_positions cp1_now_shelves_room cp1_now_shelves_gap cp1_now_shelves_places cp1_now_shelves_picked cp1_now_shelves_lot cp1_now_shelves_pieces cp1_now_shelves_mark cp1_now_shelves_byDistance cp1_now_lots_count cp1_now_lots_product cp1_now_lots_last cp1_now_lots_cost cp1_now_lots_state cp1_now_lots_byLast cp1_now_orders_count cp1_now_orders_gifts cp1_now_orders_customer cp1_now_orders_product cp1_now_orders_open cp1_now_orders_due cp1_now_orders_life cp1_now_orders_byDue cp1_now_orders_had cp1_now_orders_stamps) (fun r1 o3 o4 o5 o6 o7 o8 o9 o10 o11 o12 o13 o14 o15 o16 o17 o18 o19 o20 o21 o22 => mx r1 (fun E23 => (if E23 = "java/lang/IllegalArgumentException" then some (1, o3, o4, o5, o6, o7, o8, o9, o10, o11, o12, o13, o14, o15, o16, o17, o18, o19, o20, o21, o22, cp6)
  else none)) (fun r1v =>
  (gd 0 1 (some (0, o3, o4, o5, o6, o7, o8, o9, o10, o11, o12, o13, o14, o15, o16, o17, o18, o19, o20, o21, o22, vp_updL cp6 (0 : Int32).toNatClampNeg r1v.toInt64)))))
def f_W_order (v1 : Int32) (v2 : Int32) (v3 : Int32) (v4 : Int32) (v5 : Int32) (cp1_acts : Int32) (cp1_nextSlot : Int32) (cp1_hk : Nat) (cp1_st : Nat → StT) (cp1_now_today : Int32) (cp1_now_products : Int32) (cp1_now_itemCount : Int32) (cp1_now_items : Nat → Int32) (cp1_now_books : Nat → Int32) (cp1_now_terms : Nat → Int32) (cp1_now_shelves_lanes : Int32) (cp1_now_shelves_positions : Int32) (cp1_now_shelves_room : Int32) (cp1_now_shelves_gap : Int32) (cp1_now_shelves_places : Int32) (cp1_now_shelves_picked : Int64) (cp1_now_shelves_lot : Nat → Int32) (cp1_now_shelves_pieces : Nat → Int32) (cp1_now_shelves_mark : Nat → Int32) (cp1_now_shelves_byDistance : Nat → Int32) (cp1_now_lots_count : Int32) (cp1_now_lots_product : Nat → Int32) (cp1_now_lots_last : Nat → Int32) (cp1_now_lots_cost : Nat → Int32) (cp1_now_lots_state : Nat → Int32) (cp1_now_lots_byLast : Nat → Int32) (cp1_now_orders_count : Int32) (cp1_now_orders_gifts : Int32) (cp1_now_orders_customer : Nat → Int32) (cp1_now_orders_product : Nat → Int32) (cp1_now_orders_open : Nat → Int32) (cp1_now_orders_due : Nat → Int32) (cp1_now_orders_life : Nat → Int32) (cp1_now_orders_byDue : Nat → Int32) (cp1_now_orders_had : Nat → Int32) (cp1_now_orders_stamps : Nat → Int32) (cp7 : Nat → Int64) : Option (Int32 × Int32 × Int32 × Nat × (Nat → StT) × Int32 × (Nat → Int32) × (Nat → Int32) × (Nat → Int32) × (Nat → Int32) × (Nat → Int32) × (Nat → Int32) × (Nat → Int32) × (Nat → Int32) × (Nat → Int64)) :=
  bnd14 (f_X7_order v1 v2 v3 v4 v5 cp1_acts cp1_nextSlot cp1_hk cp1_st cp1_now_today cp1_now_products cp1_now_itemCount cp1_now_items cp1_now_books cp1_now_terms cp1_now_shelves_lanes cp1_now_shelves_positions cp1_now_shelves_room cp1_now_shelves_gap cp1_now_shelves_places cp1_now_shelves_picked cp1_now_shelves_lot cp1_now_shelves_pieces cp1_now_shelves_mark cp1_now_shelves_byDistance cp1_now_lots_count cp1_now_lots_product cp1_now_lots_last cp1_now_lots_cost cp1_now_lots_state cp1_now_lots_byLast cp1_now_orders_count cp1_now_orders_gifts cp1_now_orders_customer cp1_now_orders_product cp1_now_orders_open cp1_now_orders_due cp1_now_orders_life cp1_now_orders_byDue cp1_now_orders_had cp1_now_orders_stamps) (fun r1 o3 o4 o5 o6 o7 o8 o9 o10 o11 o12 o13 o14 o15 => mx r1 (fun E16 => (if E16 = "java/lang/IndexOutOfBoundsException" then some (1, o3, o4, o5, o6, o7, o8, o9, o10, o11, o12, o13, o14, o15, cp7)
  else (if E16 = "java/lang/IllegalArgumentException" then some (2, o3, o4, o5, o6, o7, o8, o9, o10, o11, o12, o13, o14, o15, cp7)
  else (if E16 = "java/lang/IllegalStateException" then some (3, o3, o4, o5, o6, o7, o8, o9, o10, o11, o12, o13, o14, o15, cp7)
  else none)))) (fun r1v =>
  (gd 0 1 (some (0, o3, o4, o5, o6, o7, o8, o9, o10, o11, o12, o13, o14, o15, vp_updL cp7 (0 : Int32).toNatClampNeg r1v.toInt64)))))
def f_W_orderAt (v1 : Int32) (v2 : Int32) (cp1_now_orders_count : Int32) (cp1_now_orders_customer : Nat → Int32) (cp1_now_orders_product : Nat → Int32) (cp1_now_orders_open : Nat → Int32) (cp1_now_orders_due : Nat → Int32) (cp1_now_orders_life : Nat → Int32) (cp1_now_orders_had : Nat → Int32) (cp4 : Nat → Int64) : Option (Int32 × (Nat → Int64)) :=
  bnd1 (f_X7_orderAt v1 v2 cp1_now_orders_count cp1_now_orders_customer cp1_now_orders_product cp1_now_orders_open cp1_now_orders_due cp1_now_orders_life cp1_now_orders_had) (fun r1 => mx r1 (fun E3 => (if E3 = "java/lang/IndexOutOfBoundsException" then some (1, cp4)
  else (if E3 = "java/lang/IllegalArgumentException" then some (2, cp4)
  else none))) (fun r1v =>
  (gd 0 1 (some (0, vp_updL cp4 (0 : Int32).toNatClampNeg r1v.toInt64)))))
def f_W_passDays (v1 : Int32) (cp1_acts : Int32) (cp1_nextSlot : Int32) (cp1_hk : Nat) (cp1_st : Nat → StT) (cp1_now_today : Int32) (cp1_now_products : Int32) (cp1_now_itemCount : Int32) (cp1_now_items : Nat → Int32) (cp1_now_books : Nat → Int32) (cp1_now_terms : Nat → Int32) (cp1_now_shelves_lanes : Int32) (cp1_now_shelves_positions : Int32) (cp1_now_shelves_room : Int32) (cp1_now_shelves_gap : Int32) (cp1_now_shelves_places : Int32) (cp1_now_shelves_picked : Int64) (cp1_now_shelves_lot : Nat → Int32) (cp1_now_shelves_pieces : Nat → Int32) (cp1_now_shelves_mark : Nat → Int32) (cp1_now_shelves_byDistance : Nat → Int32) (cp1_now_lots_count : Int32) (cp1_now_lots_product : Nat → Int32) (cp1_now_lots_last : Nat → Int32) (cp1_now_lots_cost : Nat → Int32) (cp1_now_lots_state : Nat → Int32) (cp1_now_lots_byLast : Nat → Int32) (cp1_now_orders_count : Int32) (cp1_now_orders_gifts : Int32) (cp1_now_orders_customer : Nat → Int32) (cp1_now_orders_product : Nat → Int32) (cp1_now_orders_open : Nat → Int32) (cp1_now_orders_due : Nat → Int32) (cp1_now_orders_life : Nat → Int32) (cp1_now_orders_byDue : Nat → Int32) (cp1_now_orders_had : Nat → Int32) (cp1_now_orders_stamps : Nat → Int32) (cp3 : Nat → Int64) : Option (Int32 × Int32 × Int32 × Nat × (Nat → StT) × Int32 × (Nat → Int32) × (Nat → Int32) × (Nat → Int32) × (Nat → Int32) × (Nat → Int64)) :=
  bnd10 (f_X7_passDays v1 cp1_acts cp1_nextSlot cp1_hk cp1_st cp1_now_today cp1_now_products cp1_now_itemCount cp1_now_items cp1_now_books cp1_now_terms cp1_now_shelves_lanes cp1_now_shelves_positions cp1_now_shelves_room cp1_now_shelves_gap cp1_now_shelves_places cp1_now_shelves_picked cp1_now_shelves_lot cp1_now_shelves_pieces cp1_now_shelves_mark cp1_now_shelves_byDistance cp1_now_lots_count cp1_now_lots_product cp1_now_lots_last cp1_now_lots_cost cp1_now_lots_state cp1_now_lots_byLast cp1_now_orders_count cp1_now_orders_gifts cp1_now_orders_customer cp1_now_orders_product cp1_now_orders_open cp1_now_orders_due cp1_now_orders_life cp1_now_orders_byDue cp1_now_orders_had cp1_now_orders_stamps) (fun r1 o3 o4 o5 o6 o7 o8 o9 o10 o11 => mx r1 (fun E12 => (if E12 = "java/lang/IllegalArgumentException" then some (1, o3, o4, o5, o6, o7, o8, o9, o10, o11, cp3)
  else (if E12 = "java/lang/IllegalStateException" then some (2, o3, o4, o5, o6, o7, o8, o9, o10, o11, cp3)
  else none))) (fun r1v =>
  (gd 0 1 (some (0, o3, o4, o5, o6, o7, o8, o9, o10, o11, vp_updL cp3 (0 : Int32).toNatClampNeg r1v.toInt64)))))
def f_W_pickLength (v1 : Int32) (cp1_now_shelves_lanes : Int32) (cp1_now_shelves_positions : Int32) (cp1_now_shelves_gap : Int32) (cp1_now_shelves_picked : Int64) (cp1_picker_deepest : Int32) (cp1_picker_shallowest : Int32) (cp1_picker_widest : Int32) (cp1_picker_least : Nat → Int32) (cp1_picker_next : Nat → Int32) (cp3 : Nat → Int64) : Option (Int32 × Int32 × Int32 × Int32 × (Nat → Int32) × (Nat → Int32) × (Nat → Int64)) :=
  bnd6 (f_X7_pickLength v1 cp1_now_shelves_lanes cp1_now_shelves_positions cp1_now_shelves_gap cp1_now_shelves_picked cp1_picker_deepest cp1_picker_shallowest cp1_picker_widest cp1_picker_least cp1_picker_next) (fun r1 o3 o4 o5 o6 o7 => mx r1 (fun E8 => (if E8 = "java/lang/IllegalArgumentException" then some (1, o3, o4, o5, o6, o7, cp3)
  else (if E8 = "java/lang/IllegalStateException" then some (2, o3, o4, o5, o6, o7, cp3)
  else none))) (fun r1v =>
  (gd 0 1 (some (0, o3, o4, o5, o6, o7, vp_updL cp3 (0 : Int32).toNatClampNeg r1v.toInt64)))))
def f_W_placeAt (v1 : Int32) (v2 : Int32) (cp1_now_shelves_positions : Int32) (cp1_now_shelves_gap : Int32) (cp1_now_shelves_places : Int32) (cp1_now_shelves_lot : Nat → Int32) (cp1_now_shelves_pieces : Nat → Int32) (cp1_now_shelves_mark : Nat → Int32) (cp4 : Nat → Int64) : Option (Int32 × (Nat → Int64)) :=
  bnd1 (f_X7_placeAt v1 v2 cp1_now_shelves_positions cp1_now_shelves_gap cp1_now_shelves_places cp1_now_shelves_lot cp1_now_shelves_pieces cp1_now_shelves_mark) (fun r1 => mx r1 (fun E3 => (if E3 = "java/lang/IndexOutOfBoundsException" then some (1, cp4)
  else (if E3 = "java/lang/IllegalArgumentException" then some (2, cp4)
  else none))) (fun r1v =>
  (gd 0 1 (some (0, vp_updL cp4 (0 : Int32).toNatClampNeg r1v.toInt64)))))
def f_W_planCost (v1 : Int32) (v2 : Int32) (v3 : Int32) (cp1_now_terms : Nat → Int32) (cp1_plan_terms : Nat → Int32) (cp1_plan_low : Nat → Int32) (cp1_plan_high : Nat → Int32) (cp1_plan_bottom : Nat → Int64) (cp1_plan_cost : Nat → Int64) (cp1_plan_act : Nat → Int32) (cp5 : Nat → Int64) : Option (Int32 × (Nat → Int32) × (Nat → Int32) × (Nat → Int32) × (Nat → Int64) × (Nat → Int64) × (Nat → Int32) × (Nat → Int64)) :=
  bnd7 (f_X7_planCost v1 v2 v3 cp1_now_terms cp1_plan_terms cp1_plan_low cp1_plan_high cp1_plan_bottom cp1_plan_cost cp1_plan_act) (fun r1 o3 o4 o5 o6 o7 o8 => mx r1 (fun E9 => (if E9 = "java/lang/IllegalArgumentException" then some (1, o3, o4, o5, o6, o7, o8, cp5)
  else none)) (fun r1v =>
  (gd 0 1 (some (0, o3, o4, o5, o6, o7, o8, vp_updL cp5 (0 : Int32).toNatClampNeg r1v)))))
def f_W_proofDay (v1 : Int32) (cp1_now_products : Int32) (cp1_now_shelves_places : Int32) (cp1_now_shelves_picked : Int64) (cp1_now_shelves_lot : Nat → Int32) (cp1_now_shelves_pieces : Nat → Int32) (cp1_now_shelves_mark : Nat → Int32) (cp1_now_shelves_byDistance : Nat → Int32) (cp1_now_lots_count : Int32) (cp1_now_lots_product : Nat → Int32) (cp1_now_lots_last : Nat → Int32) (cp1_now_lots_state : Nat → Int32) (cp1_now_lots_byLast : Nat → Int32) (cp1_now_orders_count : Int32) (cp1_now_orders_gifts : Int32) (cp1_now_orders_product : Nat → Int32) (cp1_now_orders_open : Nat → Int32) (cp1_now_orders_due : Nat → Int32) (cp1_now_orders_life : Nat → Int32) (cp1_now_orders_byDue : Nat → Int32) (cp1_now_orders_had : Nat → Int32) (cp1_now_orders_stamps : Nat → Int32) (cp1_rest : Nat → Int32) (cp3 : Nat → Int64) : Option (Int32 × Int64 × (Nat → Int32) × (Nat → Int32) × (Nat → Int32) × Int32 × (Nat → Int32) × (Nat → Int32) × (Nat → Int32) × (Nat → Int32) × (Nat → Int64)) :=
  bnd10 (f_X7_proofDay v1 cp1_now_products cp1_now_shelves_places cp1_now_shelves_picked cp1_now_shelves_lot cp1_now_shelves_pieces cp1_now_shelves_mark cp1_now_shelves_byDistance cp1_now_lots_count cp1_now_lots_product cp1_now_lots_last cp1_now_lots_state cp1_now_lots_byLast cp1_now_orders_count cp1_now_orders_gifts cp1_now_orders_product cp1_now_orders_open cp1_now_orders_due cp1_now_orders_life cp1_now_orders_byDue cp1_now_orders_had cp1_now_orders_stamps cp1_rest) (fun r1 o3 o4 o5 o6 o7 o8 o9 o10 o11 => mx r1 (fun E12 => (if E12 = "java/lang/IndexOutOfBoundsException" then some (1, o3, o4, o5, o6, o7, o8, o9, o10, o11, cp3)
  else (if E12 = "java/util/NoSuchElementException" then some (2, o3, o4, o5, o6, o7, o8, o9, o10, o11, cp3)
  else none))) (fun r1v =>
  (gd 0 1 (some (0, o3, o4, o5, o6, o7, o8, o9, o10, o11, vp_updL cp3 (0 : Int32).toNatClampNeg r1v.toInt64)))))
def f_W_recall (v1 : Int32) (cp1_acts : Int32) (cp1_nextSlot : Int32) (cp1_hk : Nat) (cp1_st : Nat → StT) (cp1_now_today : Int32) (cp1_now_products : Int32) (cp1_now_itemCount : Int32) (cp1_now_items : Nat → Int32) (cp1_now_books : Nat → Int32) (cp1_now_terms : Nat → Int32) (cp1_now_shelves_lanes : Int32) (cp1_now_shelves_positions : Int32) (cp1_now_shelves_room : Int32) (cp1_now_shelves_gap : Int32) (cp1_now_shelves_places : Int32) (cp1_now_shelves_picked : Int64) (cp1_now_shelves_lot : Nat → Int32) (cp1_now_shelves_pieces : Nat → Int32) (cp1_now_shelves_mark : Nat → Int32) (cp1_now_shelves_byDistance : Nat → Int32) (cp1_now_lots_count : Int32) (cp1_now_lots_product : Nat → Int32) (cp1_now_lots_last : Nat → Int32) (cp1_now_lots_cost : Nat → Int32) (cp1_now_lots_state : Nat → Int32) (cp1_now_lots_byLast : Nat → Int32) (cp1_now_orders_count : Int32) (cp1_now_orders_gifts : Int32) (cp1_now_orders_customer : Nat → Int32) (cp1_now_orders_product : Nat → Int32) (cp1_now_orders_open : Nat → Int32) (cp1_now_orders_due : Nat → Int32) (cp1_now_orders_life : Nat → Int32) (cp1_now_orders_byDue : Nat → Int32) (cp1_now_orders_had : Nat → Int32) (cp1_now_orders_stamps : Nat → Int32) (cp3 : Nat → Int64) : Option (Int32 × Int32 × Int32 × Nat × (Nat → StT) × (Nat → Int32) × (Nat → Int32) × (Nat → Int32) × (Nat → Int32) × (Nat → Int32) × (Nat → Int64)) :=
  bnd10 (f_X7_recall v1 cp1_acts cp1_nextSlot cp1_hk cp1_st cp1_now_today cp1_now_products cp1_now_itemCount cp1_now_items cp1_now_books cp1_now_terms cp1_now_shelves_lanes cp1_now_shelves_positions cp1_now_shelves_room cp1_now_shelves_gap cp1_now_shelves_places cp1_now_shelves_picked cp1_now_shelves_lot cp1_now_shelves_pieces cp1_now_shelves_mark cp1_now_shelves_byDistance cp1_now_lots_count cp1_now_lots_product cp1_now_lots_last cp1_now_lots_cost cp1_now_lots_state cp1_now_lots_byLast cp1_now_orders_count cp1_now_orders_gifts cp1_now_orders_customer cp1_now_orders_product cp1_now_orders_open cp1_now_orders_due cp1_now_orders_life cp1_now_orders_byDue cp1_now_orders_had cp1_now_orders_stamps) (fun r1 o3 o4 o5 o6 o7 o8 o9 o10 o11 => mx r1 (fun E12 => (if E12 = "java/lang/IndexOutOfBoundsException" then some (1, o3, o4, o5, o6, o7, o8, o9, o10, o11, cp3)
  else (if E12 = "java/lang/IllegalStateException" then some (2, o3, o4, o5, o6, o7, o8, o9, o10, o11, cp3)
  else none))) (fun r1v =>
  (gd 0 1 (some (0, o3, o4, o5, o6, o7, o8, o9, o10, o11, vp_updL cp3 (0 : Int32).toNatClampNeg r1v.toInt64)))))
def f_W_scrap (v1 : Int32) (v2 : Int32) (cp1_acts : Int32) (cp1_nextSlot : Int32) (cp1_hk : Nat) (cp1_st : Nat → StT) (cp1_now_today : Int32) (cp1_now_products : Int32) (cp1_now_itemCount : Int32) (cp1_now_items : Nat → Int32) (cp1_now_books : Nat → Int32) (cp1_now_terms : Nat → Int32) (cp1_now_shelves_lanes : Int32) (cp1_now_shelves_positions : Int32) (cp1_now_shelves_room : Int32) (cp1_now_shelves_gap : Int32) (cp1_now_shelves_places : Int32) (cp1_now_shelves_picked : Int64) (cp1_now_shelves_lot : Nat → Int32) (cp1_now_shelves_pieces : Nat → Int32) (cp1_now_shelves_mark : Nat → Int32) (cp1_now_shelves_byDistance : Nat → Int32) (cp1_now_lots_count : Int32) (cp1_now_lots_product : Nat → Int32) (cp1_now_lots_last : Nat → Int32) (cp1_now_lots_cost : Nat → Int32) (cp1_now_lots_state : Nat → Int32) (cp1_now_lots_byLast : Nat → Int32) (cp1_now_orders_count : Int32) (cp1_now_orders_gifts : Int32) (cp1_now_orders_customer : Nat → Int32) (cp1_now_orders_product : Nat → Int32) (cp1_now_orders_open : Nat → Int32) (cp1_now_orders_due : Nat → Int32) (cp1_now_orders_life : Nat → Int32) (cp1_now_orders_byDue : Nat → Int32) (cp1_now_orders_had : Nat → Int32) (cp1_now_orders_stamps : Nat → Int32) (cp4 : Nat → Int64) : Option (Int32 × Int32 × Int32 × Nat × (Nat → StT) × (Nat → Int32) × (Nat → Int32) × (Nat → Int32) × (Nat → Int32) × (Nat → Int64)) :=
  bnd9 (f_X7_scrap v1 v2 cp1_acts cp1_nextSlot cp1_hk cp1_st cp1_now_today cp1_now_products cp1_now_itemCount cp1_now_items cp1_now_books cp1_now_terms cp1_now_shelves_lanes cp1_now_shelves_positions cp1_now_shelves_room cp1_now_shelves_gap cp1_now_shelves_places cp1_now_shelves_picked cp1_now_shelves_lot cp1_now_shelves_pieces cp1_now_shelves_mark cp1_now_shelves_byDistance cp1_now_lots_count cp1_now_lots_product cp1_now_lots_last cp1_now_lots_cost cp1_now_lots_state cp1_now_lots_byLast cp1_now_orders_count cp1_now_orders_gifts cp1_now_orders_customer cp1_now_orders_product cp1_now_orders_open cp1_now_orders_due cp1_now_orders_life cp1_now_orders_byDue cp1_now_orders_had cp1_now_orders_stamps) (fun r1 o3 o4 o5 o6 o7 o8 o9 o10 => mx r1 (fun E11 => (if E11 = "java/lang/IndexOutOfBoundsException" then some (1, o3, o4, o5, o6, o7, o8, o9, o10, cp4)
  else (if E11 = "java/lang/IllegalArgumentException" then some (2, o3, o4, o5, o6, o7, o8, o9, o10, cp4)
  else (if E11 = "java/lang/IllegalStateException" then some (3, o3, o4, o5, o6, o7, o8, o9, o10, cp4)
  else none)))) (fun r1v =>
  (gd 0 1 (some (0, o3, o4, o5, o6, o7, o8, o9, o10, vp_updL cp4 (0 : Int32).toNatClampNeg r1v.toInt64)))))
def f_W_setCosts (v1 : Int32) (v2 : Int32) (v3 : Int32) (v4 : Int32) (v5 : Int32) (cp1_acts : Int32) (cp1_nextSlot : Int32) (cp1_hk : Nat) (cp1_st : Nat → StT) (cp1_now_today : Int32) (cp1_now_products : Int32) (cp1_now_itemCount : Int32) (cp1_now_items : Nat → Int32) (cp1_now_books : Nat → Int32) (cp1_now_terms : Nat → Int32) (cp1_now_shelves_lanes : Int32) (cp1_now_shelves_positions : Int32) (cp1_now_shelves_room : Int32) (cp1_now_shelves_gap : Int32) (cp1_now_shelves_places : Int32) (cp1_now_shelves_picked : Int64) (cp1_now_shelves_lot : Nat → Int32) (cp1_now_shelves_pieces : Nat → Int32) (cp1_now_shelves_mark : Nat → Int32) (cp1_now_shelves_byDistance : Nat → Int32) (cp1_now_lots_count : Int32) (cp1_now_lots_product : Nat → Int32) (cp1_now_lots_last : Nat → Int32) (cp1_now_lots_cost : Nat → Int32) (cp1_now_lots_state : Nat → Int32) (cp1_now_lots_byLast : Nat → Int32) (cp1_now_orders_count : Int32) (cp1_now_orders_gifts : Int32) (cp1_now_orders_customer : Nat → Int32) (cp1_now_orders_product : Nat → Int32) (cp1_now_orders_open : Nat → Int32) (cp1_now_orders_due : Nat → Int32) (cp1_now_orders_life : Nat → Int32) (cp1_now_orders_byDue : Nat → Int32) (cp1_now_orders_had : Nat → Int32) (cp1_now_orders_stamps : Nat → Int32) (cp7 : Nat → Int64) : Option (Int32 × Int32 × Int32 × Nat × (Nat → StT) × (Nat → Int32) × (Nat → Int64)) :=
  bnd6 (f_X7_setCosts v1 v2 v3 v4 v5 cp1_acts cp1_nextSlot cp1_hk cp1_st cp1_now_today cp1_now_products cp1_now_itemCount cp1_now_items cp1_now_books cp1_now_terms cp1_now_shelves_lanes cp1_now_shelves_positions cp1_now_shelves_room cp1_now_shelves_gap cp1_now_shelves_places cp1_now_shelves_picked cp1_now_shelves_lot cp1_now_shelves_pieces cp1_now_shelves_mark cp1_now_shelves_byDistance cp1_now_lots_count cp1_now_lots_product cp1_now_lots_last cp1_now_lots_cost cp1_now_lots_state cp1_now_lots_byLast cp1_now_orders_count cp1_now_orders_gifts cp1_now_orders_customer cp1_now_orders_product cp1_now_orders_open cp1_now_orders_due cp1_now_orders_life cp1_now_orders_byDue cp1_now_orders_had cp1_now_orders_stamps) (fun r1 o3 o4 o5 o6 o7 => mx r1 (fun E8 => (if E8 = "java/lang/IllegalArgumentException" then some (1, o3, o4, o5, o6, o7, cp7)
  else none)) (fun r1v =>
  (gd 0 1 (some (0, o3, o4, o5, o6, o7, vp_updL cp7 (0 : Int32).toNatClampNeg r1v.toInt64)))))
def f_W_setWants (v1 : Int32) (v2 : Int32) (v3 : Int32) (v4 : Int32) (v5 : Int32) (cp1_acts : Int32) (cp1_nextSlot : Int32) (cp1_hk : Nat) (cp1_st : Nat → StT) (cp1_now_today : Int32) (cp1_now_products : Int32) (cp1_now_itemCount : Int32) (cp1_now_items : Nat → Int32) (cp1_now_books : Nat → Int32) (cp1_now_terms : Nat → Int32) (cp1_now_shelves_lanes : Int32) (cp1_now_shelves_positions : Int32) (cp1_now_shelves_room : Int32) (cp1_now_shelves_gap : Int32) (cp1_now_shelves_places : Int32) (cp1_now_shelves_picked : Int64) (cp1_now_shelves_lot : Nat → Int32) (cp1_now_shelves_pieces : Nat → Int32) (cp1_now_shelves_mark : Nat → Int32) (cp1_now_shelves_byDistance : Nat → Int32) (cp1_now_lots_count : Int32) (cp1_now_lots_product : Nat → Int32) (cp1_now_lots_last : Nat → Int32) (cp1_now_lots_cost : Nat → Int32) (cp1_now_lots_state : Nat → Int32) (cp1_now_lots_byLast : Nat → Int32) (cp1_now_orders_count : Int32) (cp1_now_orders_gifts : Int32) (cp1_now_orders_customer : Nat → Int32) (cp1_now_orders_product : Nat → Int32) (cp1_now_orders_open : Nat → Int32) (cp1_now_orders_due : Nat → Int32) (cp1_now_orders_life : Nat → Int32) (cp1_now_orders_byDue : Nat → Int32) (cp1_now_orders_had : Nat → Int32) (cp1_now_orders_stamps : Nat → Int32) (cp7 : Nat → Int64) : Option (Int32 × Int32 × Int32 × Nat × (Nat → StT) × (Nat → Int32) × (Nat → Int64)) :=
  bnd6 (f_X7_setWants v1 v2 v3 v4 v5 cp1_acts cp1_nextSlot cp1_hk cp1_st cp1_now_today cp1_now_products cp1_now_itemCount cp1_now_items cp1_now_books cp1_now_terms cp1_now_shelves_lanes cp1_now_shelves_positions cp1_now_shelves_room cp1_now_shelves_gap cp1_now_shelves_places cp1_now_shelves_picked cp1_now_shelves_lot cp1_now_shelves_pieces cp1_now_shelves_mark cp1_now_shelves_byDistance cp1_now_lots_count cp1_now_lots_product cp1_now_lots_last cp1_now_lots_cost cp1_now_lots_state cp1_now_lots_byLast cp1_now_orders_count cp1_now_orders_gifts cp1_now_orders_customer cp1_now_orders_product cp1_now_orders_open cp1_now_orders_due cp1_now_orders_life cp1_now_orders_byDue cp1_now_orders_had cp1_now_orders_stamps) (fun r1 o3 o4 o5 o6 o7 => mx r1 (fun E8 => (if E8 = "java/lang/IllegalArgumentException" then some (1, o3, o4, o5, o6, o7, cp7)
  else none)) (fun r1v =>
  (gd 0 1 (some (0, o3, o4, o5, o6, o7, vp_updL cp7 (0 : Int32).toNatClampNeg r1v.toInt64)))))
def f_W_stock (v1 : Int32) (cp1_now_products : Int32) (cp1_now_shelves_places : Int32) (cp1_now_shelves_lot : Nat → Int32) (cp1_now_shelves_pieces : Nat → Int32) (cp1_now_lots_count : Int32) (cp1_now_lots_product : Nat → Int32) (cp1_rest : Nat → Int32) (cp3 : Nat → Int64) : Option (Int32 × (Nat → Int32) × (Nat → Int64)) :=
  bnd2 (f_X7_stock v1 cp1_now_products cp1_now_shelves_places cp1_now_shelves_lot cp1_now_shelves_pieces cp1_now_lots_count cp1_now_lots_product cp1_rest) (fun r1 o3 => mx r1 (fun E4 => (if E4 = "java/lang/IndexOutOfBoundsException" then some (1, o3, cp3)
  else none)) (fun r1v =>
  (gd 0 1 (some (0, o3, vp_updL cp3 (0 : Int32).toNatClampNeg r1v.toInt64)))))
def f_W_stockCost (v1 : Int32) (cp1_now_products : Int32) (cp1_now_shelves_places : Int32) (cp1_now_shelves_lot : Nat → Int32) (cp1_now_shelves_pieces : Nat → Int32) (cp1_now_lots_count : Int32) (cp1_now_lots_product : Nat → Int32) (cp1_now_lots_cost : Nat → Int32) (cp1_rest : Nat → Int32) (cp3 : Nat → Int64) : Option (Int32 × (Nat → Int32) × (Nat → Int64)) :=
  bnd2 (f_X7_stockCost v1 cp1_now_products cp1_now_shelves_places cp1_now_shelves_lot cp1_now_shelves_pieces cp1_now_lots_count cp1_now_lots_product cp1_now_lots_cost cp1_rest) (fun r1 o3 => mx r1 (fun E4 => (if E4 = "java/lang/IndexOutOfBoundsException" then some (1, o3, cp3)
  else none)) (fun r1v =>
  (gd 0 1 (some (0, o3, vp_updL cp3 (0 : Int32).toNatClampNeg r1v)))))
def f_W_undo (cp1_acts : Int32) (cp1_nextSlot : Int32) (cp1_hk : Nat) (cp1_st : Nat → StT) (cp1_now_today : Int32) (cp1_now_products : Int32) (cp1_now_itemCount : Int32) (cp1_now_items : Nat → Int32) (cp1_now_books : Nat → Int32) (cp1_now_terms : Nat → Int32) (cp1_now_shelves_lanes : Int32) (cp1_now_shelves_positions : Int32) (cp1_now_shelves_room : Int32) (cp1_now_shelves_gap : Int32) (cp1_now_shelves_places : Int32) (cp1_now_shelves_picked : Int64) (cp1_now_shelves_lot : Nat → Int32) (cp1_now_shelves_pieces : Nat → Int32) (cp1_now_shelves_mark : Nat → Int32) (cp1_now_shelves_byDistance : Nat → Int32) (cp1_now_lots_count : Int32) (cp1_now_lots_product : Nat → Int32) (cp1_now_lots_last : Nat → Int32) (cp1_now_lots_cost : Nat → Int32) (cp1_now_lots_state : Nat → Int32) (cp1_now_lots_byLast : Nat → Int32) (cp1_now_orders_count : Int32) (cp1_now_orders_gifts : Int32) (cp1_now_orders_customer : Nat → Int32) (cp1_now_orders_product : Nat → Int32) (cp1_now_orders_open : Nat → Int32) (cp1_now_orders_due : Nat → Int32) (cp1_now_orders_life : Nat → Int32) (cp1_now_orders_byDue : Nat → Int32) (cp1_now_orders_had : Nat → Int32) (cp1_now_orders_stamps : Nat → Int32) (cp2 : Nat → Int64) : Option (Int32 × Int32 × Int32 × Int32 × Int32 × Int32 × (Nat → Int32) × (Nat → Int32) × (Nat → Int32) × Int32 × Int32 × Int32 × Int32 × Int32 × Int64 × (Nat → Int32) × (Nat → Int32) × (Nat → Int32) × (Nat → Int32) × Int32 × (Nat → Int32) × (Nat → Int32) × (Nat → Int32) × (Nat → Int32) × (Nat → Int32) × Int32 × Int32 × (Nat → Int32) × (Nat → Int32) × (Nat → Int32) × (Nat → Int32) × (Nat → Int32) × (Nat → Int32) × (Nat → Int32) × (Nat → Int32) × (Nat → Int64)) :=
  bnd35 (f_X7_undo cp1_acts cp1_nextSlot cp1_hk cp1_st cp1_now_today cp1_now_products cp1_now_itemCount cp1_now_items cp1_now_books cp1_now_terms cp1_now_shelves_lanes cp1_now_shelves_positions cp1_now_shelves_room cp1_now_shelves_gap cp1_now_shelves_places cp1_now_shelves_picked cp1_now_shelves_lot cp1_now_shelves_pieces cp1_now_shelves_mark cp1_now_shelves_byDistance cp1_now_lots_count cp1_now_lots_product cp1_now_lots_last cp1_now_lots_cost cp1_now_lots_state cp1_now_lots_byLast cp1_now_orders_count cp1_now_orders_gifts cp1_now_orders_customer cp1_now_orders_product cp1_now_orders_open cp1_now_orders_due cp1_now_orders_life cp1_now_orders_byDue cp1_now_orders_had cp1_now_orders_stamps) (fun r1 o3 o4 o5 o6 o7 o8 o9 o10 o11 o12 o13 o14 o15 o16 o17 o18 o19 o20 o21 o22 o23 o24 o25 o26 o27 o28 o29 o30 o31 o32 o33 o34 o35 o36 => mx r1 (fun E37 => (if E37 = "java/lang/IllegalStateException" then some (1, o3, o4, o5, o6, o7, o8, o9, o10, o11, o12, o13, o14, o15, o16, o17, o18, o19, o20, o21, o22, o23, o24, o25, o26, o27, o28, o29, o30, o31, o32, o33, o34, o35, o36, cp2)
  else none)) (fun r1v =>
  (gd 0 1 (some (0, o3, o4, o5, o6, o7, o8, o9, o10, o11, o12, o13, o14, o15, o16, o17, o18, o19, o20, o21, o22, o23, o24, o25, o26, o27, o28, o29, o30, o31, o32, o33, o34, o35, o36, vp_updL cp2 (0 : Int32).toNatClampNeg r1v.toInt64)))))
def f_W_unfilled (v1 : Int32) (cp1_now_products : Int32) (cp1_now_shelves_places : Int32) (cp1_now_shelves_picked : Int64) (cp1_now_shelves_lot : Nat → Int32) (cp1_now_shelves_pieces : Nat → Int32) (cp1_now_shelves_mark : Nat → Int32) (cp1_now_shelves_byDistance : Nat → Int32) (cp1_now_lots_count : Int32) (cp1_now_lots_product : Nat → Int32) (cp1_now_lots_last : Nat → Int32) (cp1_now_lots_state : Nat → Int32) (cp1_now_lots_byLast : Nat → Int32) (cp1_now_orders_count : Int32) (cp1_now_orders_gifts : Int32) (cp1_now_orders_product : Nat → Int32) (cp1_now_orders_open : Nat → Int32) (cp1_now_orders_due : Nat → Int32) (cp1_now_orders_life : Nat → Int32) (cp1_now_orders_byDue : Nat → Int32) (cp1_now_orders_had : Nat → Int32) (cp1_now_orders_stamps : Nat → Int32) (cp1_rest : Nat → Int32) (cp3 : Nat → Int64) : Option (Int32 × Int64 × (Nat → Int32) × (Nat → Int32) × (Nat → Int32) × Int32 × (Nat → Int32) × (Nat → Int32) × (Nat → Int32) × (Nat → Int32) × (Nat → Int64)) :=
  bnd10 (f_X7_unfilled v1 cp1_now_products cp1_now_shelves_places cp1_now_shelves_picked cp1_now_shelves_lot cp1_now_shelves_pieces cp1_now_shelves_mark cp1_now_shelves_byDistance cp1_now_lots_count cp1_now_lots_product cp1_now_lots_last cp1_now_lots_state cp1_now_lots_byLast cp1_now_orders_count cp1_now_orders_gifts cp1_now_orders_product cp1_now_orders_open cp1_now_orders_due cp1_now_orders_life cp1_now_orders_byDue cp1_now_orders_had cp1_now_orders_stamps cp1_rest) (fun r1 o3 o4 o5 o6 o7 o8 o9 o10 o11 => mx r1 (fun E12 => (if E12 = "java/lang/IndexOutOfBoundsException" then some (1, o3, o4, o5, o6, o7, o8, o9, o10, o11, cp3)
  else none)) (fun r1v =>
  (gd 0 1 (some (0, o3, o4, o5, o6, o7, o8, o9, o10, o11, vp_updL cp3 (0 : Int32).toNatClampNeg r1v.toInt64)))))
abbrev LwS : Type := Int32 × Int32 × Int32 × Int32 × Int32 × (Nat → Int32) × (Nat → Int32) × (Nat → Int32) × Int32 × Int32 × Int32 × Int32 × Int32 × Int64 × (Nat → Int32) × (Nat → Int32) × (Nat → Int32) × (Nat → Int32) × Int32 × (Nat → Int32) × (Nat → Int32) × (Nat → Int32) × (Nat → Int32) × (Nat → Int32) × Int32 × Int32 × (Nat → Int32) × (Nat → Int32) × (Nat → Int32) × (Nat → Int32) × (Nat → Int32) × (Nat → Int32) × (Nat → Int32) × (Nat → Int32) × Nat × (Nat → StT) × (Nat → Int32) × (Nat → Int32) × (Nat → Int32) × (Nat → Int64) × (Nat → Int64) × (Nat → Int32) × Int32 × Int32 × Int32 × (Nat → Int32) × (Nat → Int32) × (Nat → Int32) × (Nat → Int32) × Int32 × Int32 × Int32 × (Nat → Int32) × (Nat → Int32) × (Nat → Int32) × (Nat → Int32) × (Nat → Int32) × (Nat → Int32) × (Nat → Int32) × (Nat → Int32) × (Nat → Int32) × (Nat → Int64) × (Nat → Int64) × (Nat → Int64) × (Nat → Int64)
abbrev LwS.cp1_acts (z : LwS) : Int32 := z.1
abbrev LwS.cp1_nextSlot (z : LwS) : Int32 := z.2.1
abbrev LwS.cp1_now_today (z : LwS) : Int32 := z.2.2.1
abbrev LwS.cp1_now_products (z : LwS) : Int32 := z.2.2.2.1
abbrev LwS.cp1_now_itemCount (z : LwS) : Int32 := z.2.2.2.2.1
abbrev LwS.cp1_now_items (z : LwS) : Nat → Int32 := z.2.2.2.2.2.1
abbrev LwS.cp1_now_books (z : LwS) : Nat → Int32 := z.2.2.2.2.2.2.1
abbrev LwS.cp1_now_terms (z : LwS) : Nat → Int32 := z.2.2.2.2.2.2.2.1
abbrev LwS.cp1_now_shelves_lanes (z : LwS) : Int32 := z.2.2.2.2.2.2.2.2.1
abbrev LwS.cp1_now_shelves_positions (z : LwS) : Int32 := z.2.2.2.2.2.2.2.2.2.1
abbrev LwS.cp1_now_shelves_room (z : LwS) : Int32 := z.2.2.2.2.2.2.2.2.2.2.1
abbrev LwS.cp1_now_shelves_gap (z : LwS) : Int32 := z.2.2.2.2.2.2.2.2.2.2.2.1
abbrev LwS.cp1_now_shelves_places (z : LwS) : Int32 := z.2.2.2.2.2.2.2.2.2.2.2.2.1
abbrev LwS.cp1_now_shelves_picked (z : LwS) : Int64 := z.2.2.2.2.2.2.2.2.2.2.2.2.2.1
abbrev LwS.cp1_now_shelves_lot (z : LwS) : Nat → Int32 := z.2.2.2.2.2.2.2.2.2.2.2.2.2.2.1
abbrev LwS.cp1_now_shelves_pieces (z : LwS) : Nat → Int32 := z.2.2.2.2.2.2.2.2.2.2.2.2.2.2.2.1
abbrev LwS.cp1_now_shelves_mark (z : LwS) : Nat → Int32 := z.2.2.2.2.2.2.2.2.2.2.2.2.2.2.2.2.1
abbrev LwS.cp1_now_shelves_byDistance (z : LwS) : Nat → Int32 := z.2.2.2.2.2.2.2.2.2.2.2.2.2.2.2.2.2.1
abbrev LwS.cp1_now_lots_count (z : LwS) : Int32 := z.2.2.2.2.2.2.2.2.2.2.2.2.2.2.2.2.2.2.1
abbrev LwS.cp1_now_lots_product (z : LwS) : Nat → Int32 := z.2.2.2.2.2.2.2.2.2.2.2.2.2.2.2.2.2.2.2.1
abbrev LwS.cp1_now_lots_last (z : LwS) : Nat → Int32 := z.2.2.2.2.2.2.2.2.2.2.2.2.2.2.2.2.2.2.2.2.1
abbrev LwS.cp1_now_lots_cost (z : LwS) : Nat → Int32 := z.2.2.2.2.2.2.2.2.2.2.2.2.2.2.2.2.2.2.2.2.2.1
abbrev LwS.cp1_now_lots_state (z : LwS) : Nat → Int32 := z.2.2.2.2.2.2.2.2.2.2.2.2.2.2.2.2.2.2.2.2.2.2.1
abbrev LwS.cp1_now_lots_byLast (z : LwS) : Nat → Int32 := z.2.2.2.2.2.2.2.2.2.2.2.2.2.2.2.2.2.2.2.2.2.2.2.1
abbrev LwS.cp1_now_orders_count (z : LwS) : Int32 := z.2.2.2.2.2.2.2.2.2.2.2.2.2.2.2.2.2.2.2.2.2.2.2.2.1
abbrev LwS.cp1_now_orders_gifts (z : LwS) : Int32 := z.2.2.2.2.2.2.2.2.2.2.2.2.2.2.2.2.2.2.2.2.2.2.2.2.2.1
abbrev LwS.cp1_now_orders_customer (z : LwS) : Nat → Int32 := z.2.2.2.2.2.2.2.2.2.2.2.2.2.2.2.2.2.2.2.2.2.2.2.2.2.2.1
abbrev LwS.cp1_now_orders_product (z : LwS) : Nat → Int32 := z.2.2.2.2.2.2.2.2.2.2.2.2.2.2.2.2.2.2.2.2.2.2.2.2.2.2.2.1
abbrev LwS.cp1_now_orders_open (z : LwS) : Nat → Int32 := z.2.2.2.2.2.2.2.2.2.2.2.2.2.2.2.2.2.2.2.2.2.2.2.2.2.2.2.2.1
abbrev LwS.cp1_now_orders_due (z : LwS) : Nat → Int32 := z.2.2.2.2.2.2.2.2.2.2.2.2.2.2.2.2.2.2.2.2.2.2.2.2.2.2.2.2.2.1
abbrev LwS.cp1_now_orders_life (z : LwS) : Nat → Int32 := z.2.2.2.2.2.2.2.2.2.2.2.2.2.2.2.2.2.2.2.2.2.2.2.2.2.2.2.2.2.2.1
abbrev LwS.cp1_now_orders_byDue (z : LwS) : Nat → Int32 := z.2.2.2.2.2.2.2.2.2.2.2.2.2.2.2.2.2.2.2.2.2.2.2.2.2.2.2.2.2.2.2.1
abbrev LwS.cp1_now_orders_had (z : LwS) : Nat → Int32 := z.2.2.2.2.2.2.2.2.2.2.2.2.2.2.2.2.2.2.2.2.2.2.2.2.2.2.2.2.2.2.2.2.1
abbrev LwS.cp1_now_orders_stamps (z : LwS) : Nat → Int32 := z.2.2.2.2.2.2.2.2.2.2.2.2.2.2.2.2.2.2.2.2.2.2.2.2.2.2.2.2.2.2.2.2.2.1
abbrev LwS.cp1_hk (z : LwS) : Nat := z.2.2.2.2.2.2.2.2.2.2.2.2.2.2.2.2.2.2.2.2.2.2.2.2.2.2.2.2.2.2.2.2.2.2.1
abbrev LwS.cp1_st (z : LwS) : Nat → StT := z.2.2.2.2.2.2.2.2.2.2.2.2.2.2.2.2.2.2.2.2.2.2.2.2.2.2.2.2.2.2.2.2.2.2.2.1
abbrev LwS.cp1_plan_terms (z : LwS) : Nat → Int32 := z.2.2.2.2.2.2.2.2.2.2.2.2.2.2.2.2.2.2.2.2.2.2.2.2.2.2.2.2.2.2.2.2.2.2.2.2.1
abbrev LwS.cp1_plan_low (z : LwS) : Nat → Int32 := z.2.2.2.2.2.2.2.2.2.2.2.2.2.2.2.2.2.2.2.2.2.2.2.2.2.2.2.2.2.2.2.2.2.2.2.2.2.1
abbrev LwS.cp1_plan_high (z : LwS) : Nat → Int32 := z.2.2.2.2.2.2.2.2.2.2.2.2.2.2.2.2.2.2.2.2.2.2.2.2.2.2.2.2.2.2.2.2.2.2.2.2.2.2.1
abbrev LwS.cp1_plan_bottom (z : LwS) : Nat → Int64 := z.2.2.2.2.2.2.2.2.2.2.2.2.2.2.2.2.2.2.2.2.2.2.2.2.2.2.2.2.2.2.2.2.2.2.2.2.2.2.2.1
abbrev LwS.cp1_plan_cost (z : LwS) : Nat → Int64 := z.2.2.2.2.2.2.2.2.2.2.2.2.2.2.2.2.2.2.2.2.2.2.2.2.2.2.2.2.2.2.2.2.2.2.2.2.2.2.2.2.1
abbrev LwS.cp1_plan_act (z : LwS) : Nat → Int32 := z.2.2.2.2.2.2.2.2.2.2.2.2.2.2.2.2.2.2.2.2.2.2.2.2.2.2.2.2.2.2.2.2.2.2.2.2.2.2.2.2.2.1
abbrev LwS.cp1_picker_deepest (z : LwS) : Int32 := z.2.2.2.2.2.2.2.2.2.2.2.2.2.2.2.2.2.2.2.2.2.2.2.2.2.2.2.2.2.2.2.2.2.2.2.2.2.2.2.2.2.2.1
abbrev LwS.cp1_picker_shallowest (z : LwS) : Int32 := z.2.2.2.2.2.2.2.2.2.2.2.2.2.2.2.2.2.2.2.2.2.2.2.2.2.2.2.2.2.2.2.2.2.2.2.2.2.2.2.2.2.2.2.1
abbrev LwS.cp1_picker_widest (z : LwS) : Int32 := z.2.2.2.2.2.2.2.2.2.2.2.2.2.2.2.2.2.2.2.2.2.2.2.2.2.2.2.2.2.2.2.2.2.2.2.2.2.2.2.2.2.2.2.2.1
abbrev LwS.cp1_picker_least (z : LwS) : Nat → Int32 := z.2.2.2.2.2.2.2.2.2.2.2.2.2.2.2.2.2.2.2.2.2.2.2.2.2.2.2.2.2.2.2.2.2.2.2.2.2.2.2.2.2.2.2.2.2.1
abbrev LwS.cp1_picker_next (z : LwS) : Nat → Int32 := z.2.2.2.2.2.2.2.2.2.2.2.2.2.2.2.2.2.2.2.2.2.2.2.2.2.2.2.2.2.2.2.2.2.2.2.2.2.2.2.2.2.2.2.2.2.2.1
abbrev LwS.cp1_rest (z : LwS) : Nat → Int32 := z.2.2.2.2.2.2.2.2.2.2.2.2.2.2.2.2.2.2.2.2.2.2.2.2.2.2.2.2.2.2.2.2.2.2.2.2.2.2.2.2.2.2.2.2.2.2.2.1
abbrev LwS.cp1_packed (z : LwS) : Nat → Int32 := z.2.2.2.2.2.2.2.2.2.2.2.2.2.2.2.2.2.2.2.2.2.2.2.2.2.2.2.2.2.2.2.2.2.2.2.2.2.2.2.2.2.2.2.2.2.2.2.2.1
abbrev LwS.cp2_raised (z : LwS) : Int32 := z.2.2.2.2.2.2.2.2.2.2.2.2.2.2.2.2.2.2.2.2.2.2.2.2.2.2.2.2.2.2.2.2.2.2.2.2.2.2.2.2.2.2.2.2.2.2.2.2.2.1
abbrev LwS.cp2_undos (z : LwS) : Int32 := z.2.2.2.2.2.2.2.2.2.2.2.2.2.2.2.2.2.2.2.2.2.2.2.2.2.2.2.2.2.2.2.2.2.2.2.2.2.2.2.2.2.2.2.2.2.2.2.2.2.2.1
abbrev LwS.cp2_eldest (z : LwS) : Int32 := z.2.2.2.2.2.2.2.2.2.2.2.2.2.2.2.2.2.2.2.2.2.2.2.2.2.2.2.2.2.2.2.2.2.2.2.2.2.2.2.2.2.2.2.2.2.2.2.2.2.2.2.1
abbrev LwS.cp2_w (z : LwS) : Nat → Int32 := z.2.2.2.2.2.2.2.2.2.2.2.2.2.2.2.2.2.2.2.2.2.2.2.2.2.2.2.2.2.2.2.2.2.2.2.2.2.2.2.2.2.2.2.2.2.2.2.2.2.2.2.2.1
abbrev LwS.cp2_kept (z : LwS) : Nat → Int32 := z.2.2.2.2.2.2.2.2.2.2.2.2.2.2.2.2.2.2.2.2.2.2.2.2.2.2.2.2.2.2.2.2.2.2.2.2.2.2.2.2.2.2.2.2.2.2.2.2.2.2.2.2.2.1
abbrev LwS.cp2_copy (z : LwS) : Nat → Int32 := z.2.2.2.2.2.2.2.2.2.2.2.2.2.2.2.2.2.2.2.2.2.2.2.2.2.2.2.2.2.2.2.2.2.2.2.2.2.2.2.2.2.2.2.2.2.2.2.2.2.2.2.2.2.2.1
abbrev LwS.cp2_near (z : LwS) : Nat → Int32 := z.2.2.2.2.2.2.2.2.2.2.2.2.2.2.2.2.2.2.2.2.2.2.2.2.2.2.2.2.2.2.2.2.2.2.2.2.2.2.2.2.2.2.2.2.2.2.2.2.2.2.2.2.2.2.2.1
abbrev LwS.cp2_isDone (z : LwS) : Nat → Int32 := z.2.2.2.2.2.2.2.2.2.2.2.2.2.2.2.2.2.2.2.2.2.2.2.2.2.2.2.2.2.2.2.2.2.2.2.2.2.2.2.2.2.2.2.2.2.2.2.2.2.2.2.2.2.2.2.2.1
abbrev LwS.cp2_lane (z : LwS) : Nat → Int32 := z.2.2.2.2.2.2.2.2.2.2.2.2.2.2.2.2.2.2.2.2.2.2.2.2.2.2.2.2.2.2.2.2.2.2.2.2.2.2.2.2.2.2.2.2.2.2.2.2.2.2.2.2.2.2.2.2.2.1
abbrev LwS.cp2_position (z : LwS) : Nat → Int32 := z.2.2.2.2.2.2.2.2.2.2.2.2.2.2.2.2.2.2.2.2.2.2.2.2.2.2.2.2.2.2.2.2.2.2.2.2.2.2.2.2.2.2.2.2.2.2.2.2.2.2.2.2.2.2.2.2.2.2.1
abbrev LwS.cp2_least (z : LwS) : Nat → Int32 := z.2.2.2.2.2.2.2.2.2.2.2.2.2.2.2.2.2.2.2.2.2.2.2.2.2.2.2.2.2.2.2.2.2.2.2.2.2.2.2.2.2.2.2.2.2.2.2.2.2.2.2.2.2.2.2.2.2.2.2.1
abbrev LwS.cp2_boxesOf (z : LwS) : Nat → Int32 := z.2.2.2.2.2.2.2.2.2.2.2.2.2.2.2.2.2.2.2.2.2.2.2.2.2.2.2.2.2.2.2.2.2.2.2.2.2.2.2.2.2.2.2.2.2.2.2.2.2.2.2.2.2.2.2.2.2.2.2.2.1
abbrev LwS.cp2_staying (z : LwS) : Nat → Int64 := z.2.2.2.2.2.2.2.2.2.2.2.2.2.2.2.2.2.2.2.2.2.2.2.2.2.2.2.2.2.2.2.2.2.2.2.2.2.2.2.2.2.2.2.2.2.2.2.2.2.2.2.2.2.2.2.2.2.2.2.2.2.1
abbrev LwS.cp2_planned (z : LwS) : Nat → Int64 := z.2.2.2.2.2.2.2.2.2.2.2.2.2.2.2.2.2.2.2.2.2.2.2.2.2.2.2.2.2.2.2.2.2.2.2.2.2.2.2.2.2.2.2.2.2.2.2.2.2.2.2.2.2.2.2.2.2.2.2.2.2.2.1
abbrev LwS.cp2_scale (z : LwS) : Nat → Int64 := z.2.2.2.2.2.2.2.2.2.2.2.2.2.2.2.2.2.2.2.2.2.2.2.2.2.2.2.2.2.2.2.2.2.2.2.2.2.2.2.2.2.2.2.2.2.2.2.2.2.2.2.2.2.2.2.2.2.2.2.2.2.2.2.1
abbrev LwS.cp3 (z : LwS) : Nat → Int64 := z.2.2.2.2.2.2.2.2.2.2.2.2.2.2.2.2.2.2.2.2.2.2.2.2.2.2.2.2.2.2.2.2.2.2.2.2.2.2.2.2.2.2.2.2.2.2.2.2.2.2.2.2.2.2.2.2.2.2.2.2.2.2.2.2
def f_c0 (v1 v2 v3 v4 v5 : Int32) (z : LwS) : Option LwS :=
  bnd22 (f_W_newHouse v1 v2 v3 v4 z.cp1_acts z.cp1_nextSlot z.cp1_hk z.cp1_st z.cp1_now_today z.cp1_now_products z.cp1_now_itemCount z.cp1_now_items z.cp1_now_books z.cp1_now_terms z.cp1_now_shelves_lanes z.cp1_now_shelves_positions z.cp1_now_shelves_room z.cp1_now_shelves_gap z.cp1_now_shelves_places z.cp1_now_shelves_picked z.cp1_now_shelves_lot z.cp1_now_shelves_pieces z.cp1_now_shelves_mark z.cp1_now_shelves_byDistance z.cp1_now_lots_count z.cp1_now_lots_product z.cp1_now_lots_last z.cp1_now_lots_cost z.cp1_now_lots_state z.cp1_now_lots_byLast z.cp1_now_orders_count z.cp1_now_orders_gifts z.cp1_now_orders_customer z.cp1_now_orders_product z.cp1_now_orders_open z.cp1_now_orders_due z.cp1_now_orders_life z.cp1_now_orders_byDue z.cp1_now_orders_had z.cp1_now_orders_stamps z.cp3) (fun r1 o3 o4 o5 o6 o7 o8 o9 o10 o11 o12 o13 o14 o15 o16 o17 o18 o19 o20 o21 o22 o23 =>
  (bnd7 (f_Y8_newHouse v1 v2 v3 v4 z.cp2_raised z.cp2_undos z.cp2_eldest z.cp2_w z.cp2_kept z.cp2_near) (fun r24 o26 o27 o28 o29 o30 o31 =>
  (bnd1 (f_Y8_thrown o26) (fun r32 =>
  ((if r32 = r1 then (if r1 = 0 then gd 0 1 ((if (lg_cmp (o23 (0 : Int32).toNatClampNeg) r24.toInt64) = 0 then some (o3, o4, o7, o8, z.cp1_now_itemCount, z.cp1_now_items, o9, z.cp1_now_terms, o10, o11, o12, o13, o14, o15, o16, o17, o18, o19, o20, z.cp1_now_lots_product, z.cp1_now_lots_last, z.cp1_now_lots_cost, z.cp1_now_lots_state, z.cp1_now_lots_byLast, o21, o22, z.cp1_now_orders_customer, z.cp1_now_orders_product, z.cp1_now_orders_open, z.cp1_now_orders_due, z.cp1_now_orders_life, z.cp1_now_orders_byDue, z.cp1_now_orders_had, z.cp1_now_orders_stamps, o5, o6, z.cp1_plan_terms, z.cp1_plan_low, z.cp1_plan_high, z.cp1_plan_bottom, z.cp1_plan_cost, z.cp1_plan_act, z.cp1_picker_deepest, z.cp1_picker_shallowest, z.cp1_picker_widest, z.cp1_picker_least, z.cp1_picker_next, z.cp1_rest, z.cp1_packed, o26, o27, o28, o29, o30, z.cp2_copy, o31, z.cp2_isDone, z.cp2_lane, z.cp2_position, z.cp2_least, z.cp2_boxesOf, z.cp2_staying, z.cp2_planned, z.cp2_scale, o23)
  else none))
  else some (o3, o4, o7, o8, z.cp1_now_itemCount, z.cp1_now_items, o9, z.cp1_now_terms, o10, o11, o12, o13, o14, o15, o16, o17, o18, o19, o20, z.cp1_now_lots_product, z.cp1_now_lots_last, z.cp1_now_lots_cost, z.cp1_now_lots_state, z.cp1_now_lots_byLast, o21, o22, z.cp1_now_orders_customer, z.cp1_now_orders_product, z.cp1_now_orders_open, z.cp1_now_orders_due, z.cp1_now_orders_life, z.cp1_now_orders_byDue, z.cp1_now_orders_had, z.cp1_now_orders_stamps, o5, o6, z.cp1_plan_terms, z.cp1_plan_low, z.cp1_plan_high, z.cp1_plan_bottom, z.cp1_plan_cost, z.cp1_plan_act, z.cp1_picker_deepest, z.cp1_picker_shallowest, z.cp1_picker_widest, z.cp1_picker_least, z.cp1_picker_next, z.cp1_rest, z.cp1_packed, o26, o27, o28, o29, o30, z.cp2_copy, o31, z.cp2_isDone, z.cp2_lane, z.cp2_position, z.cp2_least, z.cp2_boxesOf, z.cp2_staying, z.cp2_planned, z.cp2_scale, o23))
  else none)))))))
def f_c1 (v1 v2 v3 v4 v5 : Int32) (z : LwS) : Option LwS :=
  bnd11 (f_W_passDays v1 z.cp1_acts z.cp1_nextSlot z.cp1_hk z.cp1_st z.cp1_now_today z.cp1_now_products z.cp1_now_itemCount z.cp1_now_items z.cp1_now_books z.cp1_now_terms z.cp1_now_shelves_lanes z.cp1_now_shelves_positions z.cp1_now_shelves_room z.cp1_now_shelves_gap z.cp1_now_shelves_places z.cp1_now_shelves_picked z.cp1_now_shelves_lot z.cp1_now_shelves_pieces z.cp1_now_shelves_mark z.cp1_now_shelves_byDistance z.cp1_now_lots_count z.cp1_now_lots_product z.cp1_now_lots_last z.cp1_now_lots_cost z.cp1_now_lots_state z.cp1_now_lots_byLast z.cp1_now_orders_count z.cp1_now_orders_gifts z.cp1_now_orders_customer z.cp1_now_orders_product z.cp1_now_orders_open z.cp1_now_orders_due z.cp1_now_orders_life z.cp1_now_orders_byDue z.cp1_now_orders_had z.cp1_now_orders_stamps z.cp3) (fun r1 o3 o4 o5 o6 o7 o8 o9 o10 o11 o12 =>
  (bnd6 (f_Y8_passDays v1 z.cp2_raised z.cp2_undos z.cp2_eldest z.cp2_w z.cp2_kept) (fun r13 o15 o16 o17 o18 o19 =>
  (bnd1 (f_Y8_thrown o15) (fun r20 =>
  ((if r20 = r1 then (if r1 = 0 then gd 0 1 ((if (lg_cmp (o12 (0 : Int32).toNatClampNeg) r13.toInt64) = 0 then some (o3, o4, o7, z.cp1_now_products, z.cp1_now_itemCount, z.cp1_now_items, o8, z.cp1_now_terms, z.cp1_now_shelves_lanes, z.cp1_now_shelves_positions, z.cp1_now_shelves_room, z.cp1_now_shelves_gap, z.cp1_now_shelves_places, z.cp1_now_shelves_picked, o9, o10, o11, z.cp1_now_shelves_byDistance, z.cp1_now_lots_count, z.cp1_now_lots_product, z.cp1_now_lots_last, z.cp1_now_lots_cost, z.cp1_now_lots_state, z.cp1_now_lots_byLast, z.cp1_now_orders_count, z.cp1_now_orders_gifts, z.cp1_now_orders_customer, z.cp1_now_orders_product, z.cp1_now_orders_open, z.cp1_now_orders_due, z.cp1_now_orders_life, z.cp1_now_orders_byDue, z.cp1_now_orders_had, z.cp1_now_orders_stamps, o5, o6, z.cp1_plan_terms, z.cp1_plan_low, z.cp1_plan_high, z.cp1_plan_bottom, z.cp1_plan_cost, z.cp1_plan_act, z.cp1_picker_deepest, z.cp1_picker_shallowest, z.cp1_picker_widest, z.cp1_picker_least, z.cp1_picker_next, z.cp1_rest, z.cp1_packed, o15, o16, o17, o18, o19, z.cp2_copy, z.cp2_near, z.cp2_isDone, z.cp2_lane, z.cp2_position, z.cp2_least, z.cp2_boxesOf, z.cp2_staying, z.cp2_planned, z.cp2_scale, o12)
  else none))
  else some (o3, o4, o7, z.cp1_now_products, z.cp1_now_itemCount, z.cp1_now_items, o8, z.cp1_now_terms, z.cp1_now_shelves_lanes, z.cp1_now_shelves_positions, z.cp1_now_shelves_room, z.cp1_now_shelves_gap, z.cp1_now_shelves_places, z.cp1_now_shelves_picked, o9, o10, o11, z.cp1_now_shelves_byDistance, z.cp1_now_lots_count, z.cp1_now_lots_product, z.cp1_now_lots_last, z.cp1_now_lots_cost, z.cp1_now_lots_state, z.cp1_now_lots_byLast, z.cp1_now_orders_count, z.cp1_now_orders_gifts, z.cp1_now_orders_customer, z.cp1_now_orders_product, z.cp1_now_orders_open, z.cp1_now_orders_due, z.cp1_now_orders_life, z.cp1_now_orders_byDue, z.cp1_now_orders_had, z.cp1_now_orders_stamps, o5, o6, z.cp1_plan_terms, z.cp1_plan_low, z.cp1_plan_high, z.cp1_plan_bottom, z.cp1_plan_cost, z.cp1_plan_act, z.cp1_picker_deepest, z.cp1_picker_shallowest, z.cp1_picker_widest, z.cp1_picker_least, z.cp1_picker_next, z.cp1_rest, z.cp1_packed, o15, o16, o17, o18, o19, z.cp2_copy, z.cp2_near, z.cp2_isDone, z.cp2_lane, z.cp2_position, z.cp2_least, z.cp2_boxesOf, z.cp2_staying, z.cp2_planned, z.cp2_scale, o12))
  else none)))))))
def f_c2 (v1 v2 v3 v4 v5 : Int32) (z : LwS) : Option LwS :=
  bnd1 (f_X7_today z.cp1_now_today) (fun r1 =>
  (bnd2 (f_Y8_today z.cp2_raised z.cp2_w) (fun r3 o5 =>
  ((if r1 = r3 then some (z.cp1_acts, z.cp1_nextSlot, z.cp1_now_today, z.cp1_now_products, z.cp1_now_itemCount, z.cp1_now_items, z.cp1_now_books, z.cp1_now_terms, z.cp1_now_shelves_lanes, z.cp1_now_shelves_positions, z.cp1_now_shelves_room, z.cp1_now_shelves_gap, z.cp1_now_shelves_places, z.cp1_now_shelves_picked, z.cp1_now_shelves_lot, z.cp1_now_shelves_pieces, z.cp1_now_shelves_mark, z.cp1_now_shelves_byDistance, z.cp1_now_lots_count, z.cp1_now_lots_product, z.cp1_now_lots_last, z.cp1_now_lots_cost, z.cp1_now_lots_state, z.cp1_now_lots_byLast, z.cp1_now_orders_count, z.cp1_now_orders_gifts, z.cp1_now_orders_customer, z.cp1_now_orders_product, z.cp1_now_orders_open, z.cp1_now_orders_due, z.cp1_now_orders_life, z.cp1_now_orders_byDue, z.cp1_now_orders_had, z.cp1_now_orders_stamps, z.cp1_hk, z.cp1_st, z.cp1_plan_terms, z.cp1_plan_low, z.cp1_plan_high, z.cp1_plan_bottom, z.cp1_plan_cost, z.cp1_plan_act, z.cp1_picker_deepest, z.cp1_picker_shallowest, z.cp1_picker_widest, z.cp1_picker_least, z.cp1_picker_next, z.cp1_rest, z.cp1_packed, o5, z.cp2_undos, z.cp2_eldest, z.cp2_w, z.cp2_kept, z.cp2_copy, z.cp2_near, z.cp2_isDone, z.cp2_lane, z.cp2_position, z.cp2_least, z.cp2_boxesOf, z.cp2_staying, z.cp2_planned, z.cp2_scale, z.cp3)
  else none)))))
def f_c3 (v1 v2 v3 v4 v5 : Int32) (z : LwS) : Option LwS :=
  bnd2 (f_W_dayOf v1 v2 v3 z.cp3) (fun r1 o3 =>
  (bnd2 (f_Y8_dayOf v1 v2 v3 z.cp2_raised) (fun r4 o6 =>
  (bnd1 (f_Y8_thrown o6) (fun r7 =>
  ((if r7 = r1 then (if r1 = 0 then gd 0 1 ((if (lg_cmp (o3 (0 : Int32).toNatClampNeg) r4.toInt64) = 0 then some (z.cp1_acts, z.cp1_nextSlot, z.cp1_now_today, z.cp1_now_products, z.cp1_now_itemCount, z.cp1_now_items, z.cp1_now_books, z.cp1_now_terms, z.cp1_now_shelves_lanes, z.cp1_now_shelves_positions, z.cp1_now_shelves_room, z.cp1_now_shelves_gap, z.cp1_now_shelves_places, z.cp1_now_shelves_picked, z.cp1_now_shelves_lot, z.cp1_now_shelves_pieces, z.cp1_now_shelves_mark, z.cp1_now_shelves_byDistance, z.cp1_now_lots_count, z.cp1_now_lots_product, z.cp1_now_lots_last, z.cp1_now_lots_cost, z.cp1_now_lots_state, z.cp1_now_lots_byLast, z.cp1_now_orders_count, z.cp1_now_orders_gifts, z.cp1_now_orders_customer, z.cp1_now_orders_product, z.cp1_now_orders_open, z.cp1_now_orders_due, z.cp1_now_orders_life, z.cp1_now_orders_byDue, z.cp1_now_orders_had, z.cp1_now_orders_stamps, z.cp1_hk, z.cp1_st, z.cp1_plan_terms, z.cp1_plan_low, z.cp1_plan_high, z.cp1_plan_bottom, z.cp1_plan_cost, z.cp1_plan_act, z.cp1_picker_deepest, z.cp1_picker_shallowest, z.cp1_picker_widest, z.cp1_picker_least, z.cp1_picker_next, z.cp1_rest, z.cp1_packed, o6, z.cp2_undos, z.cp2_eldest, z.cp2_w, z.cp2_kept, z.cp2_copy, z.cp2_near, z.cp2_isDone, z.cp2_lane, z.cp2_position, z.cp2_least, z.cp2_boxesOf, z.cp2_staying, z.cp2_planned, z.cp2_scale, o3)
  else none))
  else some (z.cp1_acts, z.cp1_nextSlot, z.cp1_now_today, z.cp1_now_products, z.cp1_now_itemCount, z.cp1_now_items, z.cp1_now_books, z.cp1_now_terms, z.cp1_now_shelves_lanes, z.cp1_now_shelves_positions, z.cp1_now_shelves_room, z.cp1_now_shelves_gap, z.cp1_now_shelves_places, z.cp1_now_shelves_picked, z.cp1_now_shelves_lot, z.cp1_now_shelves_pieces, z.cp1_now_shelves_mark, z.cp1_now_shelves_byDistance, z.cp1_now_lots_count, z.cp1_now_lots_product, z.cp1_now_lots_last, z.cp1_now_lots_cost, z.cp1_now_lots_state, z.cp1_now_lots_byLast, z.cp1_now_orders_count, z.cp1_now_orders_gifts, z.cp1_now_orders_customer, z.cp1_now_orders_product, z.cp1_now_orders_open, z.cp1_now_orders_due, z.cp1_now_orders_life, z.cp1_now_orders_byDue, z.cp1_now_orders_had, z.cp1_now_orders_stamps, z.cp1_hk, z.cp1_st, z.cp1_plan_terms, z.cp1_plan_low, z.cp1_plan_high, z.cp1_plan_bottom, z.cp1_plan_cost, z.cp1_plan_act, z.cp1_picker_deepest, z.cp1_picker_shallowest, z.cp1_picker_widest, z.cp1_picker_least, z.cp1_picker_next, z.cp1_rest, z.cp1_packed, o6, z.cp2_undos, z.cp2_eldest, z.cp2_w, z.cp2_kept, z.cp2_copy, z.cp2_near, z.cp2_isDone, z.cp2_lane, z.cp2_position, z.cp2_least, z.cp2_boxesOf, z.cp2_staying, z.cp2_planned, z.cp2_scale, o3))
  else none)))))))
def f_c4 (v1 v2 v3 v4 v5 : Int32) (z : LwS) : Option LwS :=
  bnd2 (f_W_dateOf v1 z.cp3) (fun r1 o3 =>
  (bnd2 (f_Y8_dateOf v1 z.cp2_raised) (fun r4 o6 =>
  (bnd1 (f_Y8_thrown o6) (fun r7 =>
  ((if r7 = r1 then (if r1 = 0 then gd 0 1 ((if (lg_cmp (o3 (0 : Int32).toNatClampNeg) r4.toInt64) = 0 then some (z.cp1_acts, z.cp1_nextSlot, z.cp1_now_today, z.cp1_now_products, z.cp1_now_itemCount, z.cp1_now_items, z.cp1_now_books, z.cp1_now_terms, z.cp1_now_shelves_lanes, z.cp1_now_shelves_positions, z.cp1_now_shelves_room, z.cp1_now_shelves_gap, z.cp1_now_shelves_places, z.cp1_now_shelves_picked, z.cp1_now_shelves_lot, z.cp1_now_shelves_pieces, z.cp1_now_shelves_mark, z.cp1_now_shelves_byDistance, z.cp1_now_lots_count, z.cp1_now_lots_product, z.cp1_now_lots_last, z.cp1_now_lots_cost, z.cp1_now_lots_state, z.cp1_now_lots_byLast, z.cp1_now_orders_count, z.cp1_now_orders_gifts, z.cp1_now_orders_customer, z.cp1_now_orders_product, z.cp1_now_orders_open, z.cp1_now_orders_due, z.cp1_now_orders_life, z.cp1_now_orders_byDue, z.cp1_now_orders_had, z.cp1_now_orders_stamps, z.cp1_hk, z.cp1_st, z.cp1_plan_terms, z.cp1_plan_low, z.cp1_plan_high, z.cp1_plan_bottom, z.cp1_plan_cost, z.cp1_plan_act, z.cp1_picker_deepest, z.cp1_picker_shallowest, z.cp1_picker_widest, z.cp1_picker_least, z.cp1_picker_next, z.cp1_rest, z.cp1_packed, o6, z.cp2_undos, z.cp2_eldest, z.cp2_w, z.cp2_kept, z.cp2_copy, z.cp2_near, z.cp2_isDone, z.cp2_lane, z.cp2_position, z.cp2_least, z.cp2_boxesOf, z.cp2_staying, z.cp2_planned, z.cp2_scale, o3)
  else none))
  else some (z.cp1_acts, z.cp1_nextSlot, z.cp1_now_today, z.cp1_now_products, z.cp1_now_itemCount, z.cp1_now_items, z.cp1_now_books, z.cp1_now_terms, z.cp1_now_shelves_lanes, z.cp1_now_shelves_positions, z.cp1_now_shelves_room, z.cp1_now_shelves_gap, z.cp1_now_shelves_places, z.cp1_now_shelves_picked, z.cp1_now_shelves_lot, z.cp1_now_shelves_pieces, z.cp1_now_shelves_mark, z.cp1_now_shelves_byDistance, z.cp1_now_lots_count, z.cp1_now_lots_product, z.cp1_now_lots_last, z.cp1_now_lots_cost, z.cp1_now_lots_state, z.cp1_now_lots_byLast, z.cp1_now_orders_count, z.cp1_now_orders_gifts, z.cp1_now_orders_customer, z.cp1_now_orders_product, z.cp1_now_orders_open, z.cp1_now_orders_due, z.cp1_now_orders_life, z.cp1_now_orders_byDue, z.cp1_now_orders_had, z.cp1_now_orders_stamps, z.cp1_hk, z.cp1_st, z.cp1_plan_terms, z.cp1_plan_low, z.cp1_plan_high, z.cp1_plan_bottom, z.cp1_plan_cost, z.cp1_plan_act, z.cp1_picker_deepest, z.cp1_picker_shallowest, z.cp1_picker_widest, z.cp1_picker_least, z.cp1_picker_next, z.cp1_rest, z.cp1_packed, o6, z.cp2_undos, z.cp2_eldest, z.cp2_w, z.cp2_kept, z.cp2_copy, z.cp2_near, z.cp2_isDone, z.cp2_lane, z.cp2_position, z.cp2_least, z.cp2_boxesOf, z.cp2_staying, z.cp2_planned, z.cp2_scale, o3))
  else none)))))))
def f_c5 (v1 v2 v3 v4 v5 : Int32) (z : LwS) : Option LwS :=
  bnd7 (f_W_addProduct z.cp1_acts z.cp1_nextSlot z.cp1_hk z.cp1_st z.cp1_now_today z.cp1_now_products z.cp1_now_itemCount z.cp1_now_items z.cp1_now_books z.cp1_now_terms z.cp1_now_shelves_lanes z.cp1_now_shelves_positions z.cp1_now_shelves_room z.cp1_now_shelves_gap z.cp1_now_shelves_places z.cp1_now_shelves_picked z.cp1_now_shelves_lot z.cp1_now_shelves_pieces z.cp1_now_shelves_mark z.cp1_now_shelves_byDistance z.cp1_now_lots_count z.cp1_now_lots_product z.cp1_now_lots_last z.cp1_now_lots_cost z.cp1_now_lots_state z.cp1_now_lots_byLast z.cp1_now_orders_count z.cp1_now_orders_gifts z.cp1_now_orders_customer z.cp1_now_orders_product z.cp1_now_orders_open z.cp1_now_orders_due z.cp1_now_orders_life z.cp1_now_orders_byDue z.cp1_now_orders_had z.cp1_now_orders_stamps z.cp3) (fun r1 o3 o4 o5 o6 o7 o8 =>
  (bnd6 (f_Y8_addProduct z.cp2_raised z.cp2_undos z.cp2_eldest z.cp2_w z.cp2_kept) (fun r9 o11 o12 o13 o14 o15 =>
  (bnd1 (f_Y8_thrown o11) (fun r16 =>
  ((if r16 = r1 then (if r1 = 0 then gd 0 1 ((if (lg_cmp (o8 (0 : Int32).toNatClampNeg) r9.toInt64) = 0 then some (o3, o4, z.cp1_now_today, o7, z.cp1_now_itemCount, z.cp1_now_items, z.cp1_now_books, z.cp1_now_terms, z.cp1_now_shelves_lanes, z.cp1_now_shelves_positions, z.cp1_now_shelves_room, z.cp1_now_shelves_gap, z.cp1_now_shelves_places, z.cp1_now_shelves_picked, z.cp1_now_shelves_lot, z.cp1_now_shelves_pieces, z.cp1_now_shelves_mark, z.cp1_now_shelves_byDistance, z.cp1_now_lots_count, z.cp1_now_lots_product, z.cp1_now_lots_last, z.cp1_now_lots_cost, z.cp1_now_lots_state, z.cp1_now_lots_byLast, z.cp1_now_orders_count, z.cp1_now_orders_gifts, z.cp1_now_orders_customer, z.cp1_now_orders_product, z.cp1_now_orders_open, z.cp1_now_orders_due, z.cp1_now_orders_life, z.cp1_now_orders_byDue, z.cp1_now_orders_had, z.cp1_now_orders_stamps, o5, o6, z.cp1_plan_terms, z.cp1_plan_low, z.cp1_plan_high, z.cp1_plan_bottom, z.cp1_plan_cost, z.cp1_plan_act, z.cp1_picker_deepest, z.cp1_picker_shallowest, z.cp1_picker_widest, z.cp1_picker_least, z.cp1_picker_next, z.cp1_rest, z.cp1_packed, o11, o12, o13, o14, o15, z.cp2_copy, z.cp2_near, z.cp2_isDone, z.cp2_lane, z.cp2_position, z.cp2_least, z.cp2_boxesOf, z.cp2_staying, z.cp2_planned, z.cp2_scale, o8)
  else none))
  else some (o3, o4, z.cp1_now_today, o7, z.cp1_now_itemCount, z.cp1_now_items, z.cp1_now_books, z.cp1_now_terms, z.cp1_now_shelves_lanes, z.cp1_now_shelves_positions, z.cp1_now_shelves_room, z.cp1_now_shelves_gap, z.cp1_now_shelves_places, z.cp1_now_shelves_picked, z.cp1_now_shelves_lot, z.cp1_now_shelves_pieces, z.cp1_now_shelves_mark, z.cp1_now_shelves_byDistance, z.cp1_now_lots_count, z.cp1_now_lots_product, z.cp1_now_lots_last, z.cp1_now_lots_cost, z.cp1_now_lots_state, z.cp1_now_lots_byLast, z.cp1_now_orders_count, z.cp1_now_orders_gifts, z.cp1_now_orders_customer, z.cp1_now_orders_product, z.cp1_now_orders_open, z.cp1_now_orders_due, z.cp1_now_orders_life, z.cp1_now_orders_byDue, z.cp1_now_orders_had, z.cp1_now_orders_stamps, o5, o6, z.cp1_plan_terms, z.cp1_plan_low, z.cp1_plan_high, z.cp1_plan_bottom, z.cp1_plan_cost, z.cp1_plan_act, z.cp1_picker_deepest, z.cp1_picker_shallowest, z.cp1_picker_widest, z.cp1_picker_least, z.cp1_picker_next, z.cp1_rest, z.cp1_packed, o11, o12, o13, o14, o15, z.cp2_copy, z.cp2_near, z.cp2_isDone, z.cp2_lane, z.cp2_position, z.cp2_least, z.cp2_boxesOf, z.cp2_staying, z.cp2_planned, z.cp2_scale, o8))
  else none)))))))
def f_c6 (v1 v2 v3 v4 v5 : Int32) (z : LwS) : Option LwS :=
  bnd16 (f_W_comeIn v1 v2 v3 v4 z.cp1_acts z.cp1_nextSlot z.cp1_hk z.cp1_st z.cp1_now_today z.cp1_now_products z.cp1_now_itemCount z.cp1_now_items z.cp1_now_books z.cp1_now_terms z.cp1_now_shelves_lanes z.cp1_now_shelves_positions z.cp1_now_shelves_room z.cp1_now_shelves_gap z.cp1_now_shelves_places z.cp1_now_shelves_picked z.cp1_now_shelves_lot z.cp1_now_shelves_pieces z.cp1_now_shelves_mark z.cp1_now_shelves_byDistance z.cp1_now_lots_count z.cp1_now_lots_product z.cp1_now_lots_last z.cp1_now_lots_cost z.cp1_now_lots_state z.cp1_now_lots_byLast z.cp1_now_orders_count z.cp1_now_orders_gifts z.cp1_now_orders_customer z.cp1_now_orders_product z.cp1_now_orders_open z.cp1_now_orders_due z.cp1_now_orders_life z.cp1_now_orders_byDue z.cp1_now_orders_had z.cp1_now_orders_stamps z.cp3) (fun r1 o3 o4 o5 o6 o7 o8 o9 o10 o11 o12 o13 o14 o15 o16 o17 =>
  (bnd6 (f_Y8_comeIn v1 v2 v3 v4 z.cp2_raised z.cp2_undos z.cp2_eldest z.cp2_w z.cp2_kept z.cp2_near) (fun r18 o20 o21 o22 o23 o24 =>
  (bnd1 (f_Y8_thrown o20) (fun r25 =>
  ((if r25 = r1 then (if r1 = 0 then gd 0 1 ((if (lg_cmp (o17 (0 : Int32).toNatClampNeg) r18.toInt64) = 0 then some (o3, o4, z.cp1_now_today, z.cp1_now_products, z.cp1_now_itemCount, z.cp1_now_items, o7, z.cp1_now_terms, z.cp1_now_shelves_lanes, z.cp1_now_shelves_positions, z.cp1_now_shelves_room, z.cp1_now_shelves_gap, z.cp1_now_shelves_places, z.cp1_now_shelves_picked, o8, o9, o10, z.cp1_now_shelves_byDistance, o11, o12, o13, o14, o15, o16, z.cp1_now_orders_count, z.cp1_now_orders_gifts, z.cp1_now_orders_customer, z.cp1_now_orders_product, z.cp1_now_orders_open, z.cp1_now_orders_due, z.cp1_now_orders_life, z.cp1_now_orders_byDue, z.cp1_now_orders_had, z.cp1_now_orders_stamps, o5, o6, z.cp1_plan_terms, z.cp1_plan_low, z.cp1_plan_high, z.cp1_plan_bottom, z.cp1_plan_cost, z.cp1_plan_act, z.cp1_picker_deepest, z.cp1_picker_shallowest, z.cp1_picker_widest, z.cp1_picker_least, z.cp1_picker_next, z.cp1_rest, z.cp1_packed, o20, o21, o22, o23, o24, z.cp2_copy, z.cp2_near, z.cp2_isDone, z.cp2_lane, z.cp2_position, z.cp2_least, z.cp2_boxesOf, z.cp2_staying, z.cp2_planned, z.cp2_scale, o17)
  else none))
  else some (o3, o4, z.cp1_now_today, z.cp1_now_products, z.cp1_now_itemCount, z.cp1_now_items, o7, z.cp1_now_terms, z.cp1_now_shelves_lanes, z.cp1_now_shelves_positions, z.cp1_now_shelves_room, z.cp1_now_shelves_gap, z.cp1_now_shelves_places, z.cp1_now_shelves_picked, o8, o9, o10, z.cp1_now_shelves_byDistance, o11, o12, o13, o14, o15, o16, z.cp1_now_orders_count, z.cp1_now_orders_gifts, z.cp1_now_orders_customer, z.cp1_now_orders_product, z.cp1_now_orders_open, z.cp1_now_orders_due, z.cp1_now_orders_life, z.cp1_now_orders_byDue, z.cp1_now_orders_had, z.cp1_now_orders_stamps, o5, o6, z.cp1_plan_terms, z.cp1_plan_low, z.cp1_plan_high, z.cp1_plan_bottom, z.cp1_plan_cost, z.cp1_plan_act, z.cp1_picker_deepest, z.cp1_picker_shallowest, z.cp1_picker_widest, z.cp1_picker_least, z.cp1_picker_next, z.cp1_rest, z.cp1_packed, o20, o21, o22, o23, o24, z.cp2_copy, z.cp2_near, z.cp2_isDone, z.cp2_lane, z.cp2_position, z.cp2_least, z.cp2_boxesOf, z.cp2_staying, z.cp2_planned, z.cp2_scale, o17))
  else none)))))))
def f_c7 (v1 v2 v3 v4 v5 : Int32) (z : LwS) : Option LwS :=
  (if v2 = 0 then bnd7 (f_W_hold v1 0 z.cp1_acts z.cp1_nextSlot z.cp1_hk z.cp1_st z.cp1_now_today z.cp1_now_products z.cp1_now_itemCount z.cp1_now_items z.cp1_now_books z.cp1_now_terms z.cp1_now_shelves_lanes z.cp1_now_shelves_positions z.cp1_now_shelves_room z.cp1_now_shelves_gap z.cp1_now_shelves_places z.cp1_now_shelves_picked z.cp1_now_shelves_lot z.cp1_now_shelves_pieces z.cp1_now_shelves_mark z.cp1_now_shelves_byDistance z.cp1_now_lots_count z.cp1_now_lots_product z.cp1_now_lots_last z.cp1_now_lots_cost z.cp1_now_lots_state z.cp1_now_lots_byLast z.cp1_now_orders_count z.cp1_now_orders_gifts z.cp1_now_orders_customer z.cp1_now_orders_product z.cp1_now_orders_open z.cp1_now_orders_due z.cp1_now_orders_life z.cp1_now_orders_byDue z.cp1_now_orders_had z.cp1_now_orders_stamps z.cp3) (fun r2 o4 o5 o6 o7 o8 o9 =>
  ((if v2 = 0 then bnd6 (f_Y8_hold v1 0 z.cp2_raised z.cp2_undos z.cp2_eldest z.cp2_w z.cp2_kept) (fun r11 o13 o14 o15 o16 o17 =>
  (bnd1 (f_Y8_thrown o13) (fun r18 =>
  ((if r18 = r2 then (if r2 = 0 then gd 0 1 ((if r11 = 0 then (if (lg_cmp (o9 (0 : Int32).toNatClampNeg) 0) = 0 then some (o4, o5, z.cp1_now_today, z.cp1_now_products, z.cp1_now_itemCount, z.cp1_now_items, z.cp1_now_books, z.cp1_now_terms, z.cp1_now_shelves_lanes, z.cp1_now_shelves_positions, z.cp1_now_shelves_room, z.cp1_now_shelves_gap, z.cp1_now_shelves_places, z.cp1_now_shelves_picked, z.cp1_now_shelves_lot, z.cp1_now_shelves_pieces, z.cp1_now_shelves_mark, z.cp1_now_shelves_byDistance, z.cp1_now_lots_count, z.cp1_now_lots_product, z.cp1_now_lots_last, z.cp1_now_lots_cost, o8, z.cp1_now_lots_byLast, z.cp1_now_orders_count, z.cp1_now_orders_gifts, z.cp1_now_orders_customer, z.cp1_now_orders_product, z.cp1_now_orders_open, z.cp1_now_orders_due, z.cp1_now_orders_life, z.cp1_now_orders_byDue, z.cp1_now_orders_had, z.cp1_now_orders_stamps, o6, o7, z.cp1_plan_terms, z.cp1_plan_low, z.cp1_plan_high, z.cp1_plan_bottom, z.cp1_plan_cost, z.cp1_plan_act, z.cp1_picker_deepest, z.cp1_picker_shallowest, z.cp1_picker_widest, z.cp1_picker_least, z.cp1_picker_next, z.cp1_rest, z.cp1_packed, o13, o14, o15, o16, o17, z.cp2_copy, z.cp2_near, z.cp2_isDone, z.cp2_lane, z.cp2_position, z.cp2_least, z.cp2_boxesOf, z.cp2_staying, z.cp2_planned, z.cp2_scale, o9)
  else none)
  else (if (lg_cmp (o9 (0 : Int32).toNatClampNeg) 1) = 0 then some (o4, o5, z.cp1_now_today, z.cp1_now_products, z.cp1_now_itemCount, z.cp1_now_items, z.cp1_now_books, z.cp1_now_terms, z.cp1_now_shelves_lanes, z.cp1_now_shelves_positions, z.cp1_now_shelves_room, z.cp1_now_shelves_gap, z.cp1_now_shelves_places, z.cp1_now_shelves_picked, z.cp1_now_shelves_lot, z.cp1_now_shelves_pieces, z.cp1_now_shelves_mark, z.cp1_now_shelves_byDistance, z.cp1_now_lots_count, z.cp1_now_lots_product, z.cp1_now_lots_last, z.cp1_now_lots_cost, o8, z.cp1_now_lots_byLast, z.cp1_now_orders_count, z.cp1_now_orders_gifts, z.cp1_now_orders_customer, z.cp1_now_orders_product, z.cp1_now_orders_open, z.cp1_now_orders_due, z.cp1_now_orders_life, z.cp1_now_orders_byDue, z.cp1_now_orders_had, z.cp1_now_orders_stamps, o6, o7, z.cp1_plan_terms, z.cp1_plan_low, z.cp1_plan_high, z.cp1_plan_bottom, z.cp1_plan_cost, z.cp1_plan_act, z.cp1_picker_deepest, z.cp1_picker_shallowest, z.cp1_picker_widest, z.cp1_picker_least, z.cp1_picker_next, z.cp1_rest, z.cp1_packed, o13, o14, o15, o16, o17, z.cp2_copy, z.cp2_near, z.cp2_isDone, z.cp2_lane, z.cp2_position, z.cp2_least, z.cp2_boxesOf, z.cp2_staying, z.cp2_planned, z.cp2_scale, o9)
  else none)))
  else some (o4, o5, z.cp1_now_today, z.cp1_now_products, z.cp1_now_itemCount, z.cp1_now_items, z.cp1_now_books, z.cp1_now_terms, z.cp1_now_shelves_lanes, z.cp1_now_shelves_positions, z.cp1_now_shelves_room, z.cp1_now_shelves_gap, z.cp1_now_shelves_places, z.cp1_now_shelves_picked, z.cp1_now_shelves_lot, z.cp1_now_shelves_pieces, z.cp1_now_shelves_mark, z.cp1_now_shelves_byDistance, z.cp1_now_lots_count, z.cp1_now_lots_product, z.cp1_now_lots_last, z.cp1_now_lots_cost, o8, z.cp1_now_lots_byLast, z.cp1_now_orders_count, z.cp1_now_orders_gifts, z.cp1_now_orders_customer, z.cp1_now_orders_product, z.cp1_now_orders_open, z.cp1_now_orders_due, z.cp1_now_orders_life, z.cp1_now_orders_byDue, z.cp1_now_orders_had, z.cp1_now_orders_stamps, o6, o7, z.cp1_plan_terms, z.cp1_plan_low, z.cp1_plan_high, z.cp1_plan_bottom, z.cp1_plan_cost, z.cp1_plan_act, z.cp1_picker_deepest, z.cp1_picker_shallowest, z.cp1_picker_widest, z.cp1_picker_least, z.cp1_picker_next, z.cp1_rest, z.cp1_packed, o13, o14, o15, o16, o17, z.cp2_copy, z.cp2_near, z.cp2_isDone, z.cp2_lane, z.cp2_position, z.cp2_least, z.cp2_boxesOf, z.cp2_staying, z.cp2_planned, z.cp2_scale, o9))
  else none)))))
  else bnd6 (f_Y8_hold v1 1 z.cp2_raised z.cp2_undos z.cp2_eldest z.cp2_w z.cp2_kept) (fun r26 o28 o29 o30 o31 o32 =>
  (bnd1 (f_Y8_thrown o28) (fun r33 =>
  ((if r33 = r2 then (if r2 = 0 then gd 0 1 ((if r26 = 0 then (if (lg_cmp (o9 (0 : Int32).toNatClampNeg) 0) = 0 then some (o4, o5, z.cp1_now_today, z.cp1_now_products, z.cp1_now_itemCount, z.cp1_now_items, z.cp1_now_books, z.cp1_now_terms, z.cp1_now_shelves_lanes, z.cp1_now_shelves_positions, z.cp1_now_shelves_room, z.cp1_now_shelves_gap, z.cp1_now_shelves_places, z.cp1_now_shelves_picked, z.cp1_now_shelves_lot, z.cp1_now_shelves_pieces, z.cp1_now_shelves_mark, z.cp1_now_shelves_byDistance, z.cp1_now_lots_count, z.cp1_now_lots_product, z.cp1_now_lots_last, z.cp1_now_lots_cost, o8, z.cp1_now_lots_byLast, z.cp1_now_orders_count, z.cp1_now_orders_gifts, z.cp1_now_orders_customer, z.cp1_now_orders_product, z.cp1_now_orders_open, z.cp1_now_orders_due, z.cp1_now_orders_life, z.cp1_now_orders_byDue, z.cp1_now_orders_had, z.cp1_now_orders_stamps, o6, o7, z.cp1_plan_terms, z.cp1_plan_low, z.cp1_plan_high, z.cp1_plan_bottom, z.cp1_plan_cost, z.cp1_plan_act, z.cp1_picker_deepest, z.cp1_picker_shallowest, z.cp1_picker_widest, z.cp1_picker_least, z.cp1_picker_next, z.cp1_rest, z.cp1_packed, o28, o29, o30, o31, o32, z.cp2_copy, z.cp2_near, z.cp2_isDone, z.cp2_lane, z.cp2_position, z.cp2_least, z.cp2_boxesOf, z.cp2_staying, z.cp2_planned, z.cp2_scale, o9)
  else none)
  else (if (lg_cmp (o9 (0 : Int32).toNatClampNeg) 1) = 0 then some (o4, o5, z.cp1_now_today, z.cp1_now_products, z.cp1_now_itemCount, z.cp1_now_items, z.cp1_now_books, z.cp1_now_terms, z.cp1_now_shelves_lanes, z.cp1_now_shelves_positions, z.cp1_now_shelves_room, z.cp1_now_shelves_gap, z.cp1_now_shelves_places, z.cp1_now_shelves_picked, z.cp1_now_shelves_lot, z.cp1_now_shelves_pieces, z.cp1_now_shelves_mark, z.cp1_now_shelves_byDistance, z.cp1_now_lots_count, z.cp1_now_lots_product, z.cp1_now_lots_last, z.cp1_now_lots_cost, o8, z.cp1_now_lots_byLast, z.cp1_now_orders_count, z.cp1_now_orders_gifts, z.cp1_now_orders_customer, z.cp1_now_orders_product, z.cp1_now_orders_open, z.cp1_now_orders_due, z.cp1_now_orders_life, z.cp1_now_orders_byDue, z.cp1_now_orders_had, z.cp1_now_orders_stamps, o6, o7, z.cp1_plan_terms, z.cp1_plan_low, z.cp1_plan_high, z.cp1_plan_bottom, z.cp1_plan_cost, z.cp1_plan_act, z.cp1_picker_deepest, z.cp1_picker_shallowest, z.cp1_picker_widest, z.cp1_picker_least, z.cp1_picker_next, z.cp1_rest, z.cp1_packed, o28, o29, o30, o31, o32, z.cp2_copy, z.cp2_near, z.cp2_isDone, z.cp2_lane, z.cp2_position, z.cp2_least, z.cp2_boxesOf, z.cp2_staying, z.cp2_planned, z.cp2_scale, o9)
  else none)))
  else some (o4, o5, z.cp1_now_today, z.cp1_now_products, z.cp1_now_itemCount, z.cp1_now_items, z.cp1_now_books, z.cp1_now_terms, z.cp1_now_shelves_lanes, z.cp1_now_shelves_positions, z.cp1_now_shelves_room, z.cp1_now_shelves_gap, z.cp1_now_shelves_places, z.cp1_now_shelves_picked, z.cp1_now_shelves_lot, z.cp1_now_shelves_pieces, z.cp1_now_shelves_mark, z.cp1_now_shelves_byDistance, z.cp1_now_lots_count, z.cp1_now_lots_product, z.cp1_now_lots_last, z.cp1_now_lots_cost, o8, z.cp1_now_lots_byLast, z.cp1_now_orders_count, z.cp1_now_orders_gifts, z.cp1_now_orders_customer, z.cp1_now_orders_product, z.cp1_now_orders_open, z.cp1_now_orders_due, z.cp1_now_orders_life, z.cp1_now_orders_byDue, z.cp1_now_orders_had, z.cp1_now_orders_stamps, o6, o7, z.cp1_plan_terms, z.cp1_plan_low, z.cp1_plan_high, z.cp1_plan_bottom, z.cp1_plan_cost, z.cp1_plan_act, z.cp1_picker_deepest, z.cp1_picker_shallowest, z.cp1_picker_widest, z.cp1_picker_least, z.cp1_picker_next, z.cp1_rest, z.cp1_packed, o28, o29, o30, o31, o32, z.cp2_copy, z.cp2_near, z.cp2_isDone, z.cp2_lane, z.cp2_position, z.cp2_least, z.cp2_boxesOf, z.cp2_staying, z.cp2_planned, z.cp2_scale, o9))
  else none))))))))
  else bnd7 (f_W_hold v1 1 z.cp1_acts z.cp1_nextSlot z.cp1_hk z.cp1_st z.cp1_now_today z.cp1_now_products z.cp1_now_itemCount z.cp1_now_items z.cp1_now_books z.cp1_now_terms z.cp1_now_shelves_lanes z.cp1_now_shelves_positions z.cp1_now_shelves_room z.cp1_now_shelves_gap z.cp1_now_shelves_places z.cp1_now_shelves_picked z.cp1_now_shelves_lot z.cp1_now_shelves_pieces z.cp1_now_shelves_mark z.cp1_now_shelves_byDistance z.cp1_now_lots_count z.cp1_now_lots_product z.cp1_now_lots_last z.cp1_now_lots_cost z.cp1_now_lots_state z.cp1_now_lots_byLast z.cp1_now_orders_count z.cp1_now_orders_gifts z.cp1_now_orders_customer z.cp1_now_orders_product z.cp1_now_orders_open z.cp1_now_orders_due z.cp1_now_orders_life z.cp1_now_orders_byDue z.cp1_now_orders_had z.cp1_now_orders_stamps z.cp3) (fun r41 o43 o44 o45 o46 o47 o48 =>
  ((if v2 = 0 then bnd6 (f_Y8_hold v1 0 z.cp2_raised z.cp2_undos z.cp2_eldest z.cp2_w z.cp2_kept) (fun r50 o52 o53 o54 o55 o56 =>
  (bnd1 (f_Y8_thrown o52) (fun r57 =>
  ((if r57 = r41 then (if r41 = 0 then gd 0 1 ((if r50 = 0 then (if (lg_cmp (o48 (0 : Int32).toNatClampNeg) 0) = 0 then some (o43, o44, z.cp1_now_today, z.cp1_now_products, z.cp1_now_itemCount, z.cp1_now_items, z.cp1_now_books, z.cp1_now_terms, z.cp1_now_shelves_lanes, z.cp1_now_shelves_positions, z.cp1_now_shelves_room, z.cp1_now_shelves_gap, z.cp1_now_shelves_places, z.cp1_now_shelves_picked, z.cp1_now_shelves_lot, z.cp1_now_shelves_pieces, z.cp1_now_shelves_mark, z.cp1_now_shelves_byDistance, z.cp1_now_lots_count, z.cp1_now_lots_product, z.cp1_now_lots_last, z.cp1_now_lots_cost, o47, z.cp1_now_lots_byLast, z.cp1_now_orders_count, z.cp1_now_orders_gifts, z.cp1_now_orders_customer, z.cp1_now_orders_product, z.cp1_now_orders_open, z.cp1_now_orders_due, z.cp1_now_orders_life, z.cp1_now_orders_byDue, z.cp1_now_orders_had, z.cp1_now_orders_stamps, o45, o46, z.cp1_plan_terms, z.cp1_plan_low, z.cp1_plan_high, z.cp1_plan_bottom, z.cp1_plan_cost, z.cp1_plan_act, z.cp1_picker_deepest, z.cp1_picker_shallowest, z.cp1_picker_widest, z.cp1_picker_least, z.cp1_picker_next, z.cp1_rest, z.cp1_packed, o52, o53, o54, o55, o56, z.cp2_copy, z.cp2_near, z.cp2_isDone, z.cp2_lane, z.cp2_position, z.cp2_least, z.cp2_boxesOf, z.cp2_staying, z.cp2_planned, z.cp2_scale, o48)
  else none)
  else (if (lg_cmp (o48 (0 : Int32).toNatClampNeg) 1) = 0 then some (o43, o44, z.cp1_now_today, z.cp1_now_products, z.cp1_now_itemCount, z.cp1_now_items, z.cp1_now_books, z.cp1_now_terms, z.cp1_now_shelves_lanes, z.cp1_now_shelves_positions, z.cp1_now_shelves_room, z.cp1_now_shelves_gap, z.cp1_now_shelves_places, z.cp1_now_shelves_picked, z.cp1_now_shelves_lot, z.cp1_now_shelves_pieces, z.cp1_now_shelves_mark, z.cp1_now_shelves_byDistance, z.cp1_now_lots_count, z.cp1_now_lots_product, z.cp1_now_lots_last, z.cp1_now_lots_cost, o47, z.cp1_now_lots_byLast, z.cp1_now_orders_count, z.cp1_now_orders_gifts, z.cp1_now_orders_customer, z.cp1_now_orders_product, z.cp1_now_orders_open, z.cp1_now_orders_due, z.cp1_now_orders_life, z.cp1_now_orders_byDue, z.cp1_now_orders_had, z.cp1_now_orders_stamps, o45, o46, z.cp1_plan_terms, z.cp1_plan_low, z.cp1_plan_high, z.cp1_plan_bottom, z.cp1_plan_cost, z.cp1_plan_act, z.cp1_picker_deepest, z.cp1_picker_shallowest, z.cp1_picker_widest, z.cp1_picker_least, z.cp1_picker_next, z.cp1_rest, z.cp1_packed, o52, o53, o54, o55, o56, z.cp2_copy, z.cp2_near, z.cp2_isDone, z.cp2_lane, z.cp2_position, z.cp2_least, z.cp2_boxesOf, z.cp2_staying, z.cp2_planned, z.cp2_scale, o48)
  else none)))
  else some (o43, o44, z.cp1_now_today, z.cp1_now_products, z.cp1_now_itemCount, z.cp1_now_items, z.cp1_now_books, z.cp1_now_terms, z.cp1_now_shelves_lanes, z.cp1_now_shelves_positions, z.cp1_now_shelves_room, z.cp1_now_shelves_gap, z.cp1_now_shelves_places, z.cp1_now_shelves_picked, z.cp1_now_shelves_lot, z.cp1_now_shelves_pieces, z.cp1_now_shelves_mark, z.cp1_now_shelves_byDistance, z.cp1_now_lots_count, z.cp1_now_lots_product, z.cp1_now_lots_last, z.cp1_now_lots_cost, o47, z.cp1_now_lots_byLast, z.cp1_now_orders_count, z.cp1_now_orders_gifts, z.cp1_now_orders_customer, z.cp1_now_orders_product, z.cp1_now_orders_open, z.cp1_now_orders_due, z.cp1_now_orders_life, z.cp1_now_orders_byDue, z.cp1_now_orders_had, z.cp1_now_orders_stamps, o45, o46, z.cp1_plan_terms, z.cp1_plan_low, z.cp1_plan_high, z.cp1_plan_bottom, z.cp1_plan_cost, z.cp1_plan_act, z.cp1_picker_deepest, z.cp1_picker_shallowest, z.cp1_picker_widest, z.cp1_picker_least, z.cp1_picker_next, z.cp1_rest, z.cp1_packed, o52, o53, o54, o55, o56, z.cp2_copy, z.cp2_near, z.cp2_isDone, z.cp2_lane, z.cp2_position, z.cp2_least, z.cp2_boxesOf, z.cp2_staying, z.cp2_planned, z.cp2_scale, o48))
  else none)))))
  else bnd6 (f_Y8_hold v1 1 z.cp2_raised z.cp2_undos z.cp2_eldest z.cp2_w z.cp2_kept) (fun r65 o67 o68 o69 o70 o71 =>
  (bnd1 (f_Y8_thrown o67) (fun r72 =>
  ((if r72 = r41 then (if r41 = 0 then gd 0 1 ((if r65 = 0 then (if (lg_cmp (o48 (0 : Int32).toNatClampNeg) 0) = 0 then some (o43, o44, z.cp1_now_today, z.cp1_now_products, z.cp1_now_itemCount, z.cp1_now_items, z.cp1_now_books, z.cp1_now_terms, z.cp1_now_shelves_lanes, z.cp1_now_shelves_positions, z.cp1_now_shelves_room, z.cp1_now_shelves_gap, z.cp1_now_shelves_places, z.cp1_now_shelves_picked, z.cp1_now_shelves_lot, z.cp1_now_shelves_pieces, z.cp1_now_shelves_mark, z.cp1_now_shelves_byDistance, z.cp1_now_lots_count, z.cp1_now_lots_product, z.cp1_now_lots_last, z.cp1_now_lots_cost, o47, z.cp1_now_lots_byLast, z.cp1_now_orders_count, z.cp1_now_orders_gifts, z.cp1_now_orders_customer, z.cp1_now_orders_product, z.cp1_now_orders_open, z.cp1_now_orders_due, z.cp1_now_orders_life, z.cp1_now_orders_byDue, z.cp1_now_orders_had, z.cp1_now_orders_stamps, o45, o46, z.cp1_plan_terms, z.cp1_plan_low, z.cp1_plan_high, z.cp1_plan_bottom, z.cp1_plan_cost, z.cp1_plan_act, z.cp1_picker_deepest, z.cp1_picker_shallowest, z.cp1_picker_widest, z.cp1_picker_least, z.cp1_picker_next, z.cp1_rest, z.cp1_packed, o67, o68, o69, o70, o71, z.cp2_copy, z.cp2_near, z.cp2_isDone, z.cp2_lane, z.cp2_position, z.cp2_least, z.cp2_boxesOf, z.cp2_staying, z.cp2_planned, z.cp2_scale, o48)
  else none)
  else (if (lg_cmp (o48 (0 : Int32).toNatClampNeg) 1) = 0 then some (o43, o44, z.cp1_now_today, z.cp1_now_products, z.cp1_now_itemCount, z.cp1_now_items, z.cp1_now_books, z.cp1_now_terms, z.cp1_now_shelves_lanes, z.cp1_now_shelves_positions, z.cp1_now_shelves_room, z.cp1_now_shelves_gap, z.cp1_now_shelves_places, z.cp1_now_shelves_picked, z.cp1_now_shelves_lot, z.cp1_now_shelves_pieces, z.cp1_now_shelves_mark, z.cp1_now_shelves_byDistance, z.cp1_now_lots_count, z.cp1_now_lots_product, z.cp1_now_lots_last, z.cp1_now_lots_cost, o47, z.cp1_now_lots_byLast, z.cp1_now_orders_count, z.cp1_now_orders_gifts, z.cp1_now_orders_customer, z.cp1_now_orders_product, z.cp1_now_orders_open, z.cp1_now_orders_due, z.cp1_now_orders_life, z.cp1_now_orders_byDue, z.cp1_now_orders_had, z.cp1_now_orders_stamps, o45, o46, z.cp1_plan_terms, z.cp1_plan_low, z.cp1_plan_high, z.cp1_plan_bottom, z.cp1_plan_cost, z.cp1_plan_act, z.cp1_picker_deepest, z.cp1_picker_shallowest, z.cp1_picker_widest, z.cp1_picker_least, z.cp1_picker_next, z.cp1_rest, z.cp1_packed, o67, o68, o69, o70, o71, z.cp2_copy, z.cp2_near, z.cp2_isDone, z.cp2_lane, z.cp2_position, z.cp2_least, z.cp2_boxesOf, z.cp2_staying, z.cp2_planned, z.cp2_scale, o48)
  else none)))
  else some (o43, o44, z.cp1_now_today, z.cp1_now_products, z.cp1_now_itemCount, z.cp1_now_items, z.cp1_now_books, z.cp1_now_terms, z.cp1_now_shelves_lanes, z.cp1_now_shelves_positions, z.cp1_now_shelves_room, z.cp1_now_shelves_gap, z.cp1_now_shelves_places, z.cp1_now_shelves_picked, z.cp1_now_shelves_lot, z.cp1_now_shelves_pieces, z.cp1_now_shelves_mark, z.cp1_now_shelves_byDistance, z.cp1_now_lots_count, z.cp1_now_lots_product, z.cp1_now_lots_last, z.cp1_now_lots_cost, o47, z.cp1_now_lots_byLast, z.cp1_now_orders_count, z.cp1_now_orders_gifts, z.cp1_now_orders_customer, z.cp1_now_orders_product, z.cp1_now_orders_open, z.cp1_now_orders_due, z.cp1_now_orders_life, z.cp1_now_orders_byDue, z.cp1_now_orders_had, z.cp1_now_orders_stamps, o45, o46, z.cp1_plan_terms, z.cp1_plan_low, z.cp1_plan_high, z.cp1_plan_bottom, z.cp1_plan_cost, z.cp1_plan_act, z.cp1_picker_deepest, z.cp1_picker_shallowest, z.cp1_picker_widest, z.cp1_picker_least, z.cp1_picker_next, z.cp1_rest, z.cp1_packed, o67, o68, o69, o70, o71, z.cp2_copy, z.cp2_near, z.cp2_isDone, z.cp2_lane, z.cp2_position, z.cp2_least, z.cp2_boxesOf, z.cp2_staying, z.cp2_planned, z.cp2_scale, o48))
  else none)))))))))
def f_c8 (v1 v2 v3 v4 v5 : Int32) (z : LwS) : Option LwS :=
  bnd11 (f_W_recall v1 z.cp1_acts z.cp1_nextSlot z.cp1_hk z.cp1_st z.cp1_now_today z.cp1_now_products z.cp1_now_itemCount z.cp1_now_items z.cp1_now_books z.cp1_now_terms z.cp1_now_shelves_lanes z.cp1_now_shelves_positions z.cp1_now_shelves_room z.cp1_now_shelves_gap z.cp1_now_shelves_places z.cp1_now_shelves_picked z.cp1_now_shelves_lot z.cp1_now_shelves_pieces z.cp1_now_shelves_mark z.cp1_now_shelves_byDistance z.cp1_now_lots_count z.cp1_now_lots_product z.cp1_now_lots_last z.cp1_now_lots_cost z.cp1_now_lots_state z.cp1_now_lots_byLast z.cp1_now_orders_count z.cp1_now_orders_gifts z.cp1_now_orders_customer z.cp1_now_orders_product z.cp1_now_orders_open z.cp1_now_orders_due z.cp1_now_orders_life z.cp1_now_orders_byDue z.cp1_now_orders_had z.cp1_now_orders_stamps z.cp3) (fun r1 o3 o4 o5 o6 o7 o8 o9 o10 o11 o12 =>
  (bnd6 (f_Y8_recall v1 z.cp2_raised z.cp2_undos z.cp2_eldest z.cp2_w z.cp2_kept) (fun r13 o15 o16 o17 o18 o19 =>
  (bnd1 (f_Y8_thrown o15) (fun r20 =>
  ((if r20 = r1 then (if r1 = 0 then gd 0 1 ((if (lg_cmp (o12 (0 : Int32).toNatClampNeg) r13.toInt64) = 0 then some (o3, o4, z.cp1_now_today, z.cp1_now_products, z.cp1_now_itemCount, z.cp1_now_items, o7, z.cp1_now_terms, z.cp1_now_shelves_lanes, z.cp1_now_shelves_positions, z.cp1_now_shelves_room, z.cp1_now_shelves_gap, z.cp1_now_shelves_places, z.cp1_now_shelves_picked, o8, o9, o10, z.cp1_now_shelves_byDistance, z.cp1_now_lots_count, z.cp1_now_lots_product, z.cp1_now_lots_last, z.cp1_now_lots_cost, o11, z.cp1_now_lots_byLast, z.cp1_now_orders_count, z.cp1_now_orders_gifts, z.cp1_now_orders_customer, z.cp1_now_orders_product, z.cp1_now_orders_open, z.cp1_now_orders_due, z.cp1_now_orders_life, z.cp1_now_orders_byDue, z.cp1_now_orders_had, z.cp1_now_orders_stamps, o5, o6, z.cp1_plan_terms, z.cp1_plan_low, z.cp1_plan_high, z.cp1_plan_bottom, z.cp1_plan_cost, z.cp1_plan_act, z.cp1_picker_deepest, z.cp1_picker_shallowest, z.cp1_picker_widest, z.cp1_picker_least, z.cp1_picker_next, z.cp1_rest, z.cp1_packed, o15, o16, o17, o18, o19, z.cp2_copy, z.cp2_near, z.cp2_isDone, z.cp2_lane, z.cp2_position, z.cp2_least, z.cp2_boxesOf, z.cp2_staying, z.cp2_planned, z.cp2_scale, o12)
  else none))
  else some (o3, o4, z.cp1_now_today, z.cp1_now_products, z.cp1_now_itemCount, z.cp1_now_items, o7, z.cp1_now_terms, z.cp1_now_shelves_lanes, z.cp1_now_shelves_positions, z.cp1_now_shelves_room, z.cp1_now_shelves_gap, z.cp1_now_shelves_places, z.cp1_now_shelves_picked, o8, o9, o10, z.cp1_now_shelves_byDistance, z.cp1_now_lots_count, z.cp1_now_lots_product, z.cp1_now_lots_last, z.cp1_now_lots_cost, o11, z.cp1_now_lots_byLast, z.cp1_now_orders_count, z.cp1_now_orders_gifts, z.cp1_now_orders_customer, z.cp1_now_orders_product, z.cp1_now_orders_open, z.cp1_now_orders_due, z.cp1_now_orders_life, z.cp1_now_orders_byDue, z.cp1_now_orders_had, z.cp1_now_orders_stamps, o5, o6, z.cp1_plan_terms, z.cp1_plan_low, z.cp1_plan_high, z.cp1_plan_bottom, z.cp1_plan_cost, z.cp1_plan_act, z.cp1_picker_deepest, z.cp1_picker_shallowest, z.cp1_picker_widest, z.cp1_picker_least, z.cp1_picker_next, z.cp1_rest, z.cp1_packed, o15, o16, o17, o18, o19, z.cp2_copy, z.cp2_near, z.cp2_isDone, z.cp2_lane, z.cp2_position, z.cp2_least, z.cp2_boxesOf, z.cp2_staying, z.cp2_planned, z.cp2_scale, o12))
  else none)))))))
def f_c9 (v1 v2 v3 v4 v5 : Int32) (z : LwS) : Option LwS :=
  bnd2 (f_W_lotAt v1 v2 z.cp1_now_shelves_places z.cp1_now_shelves_lot z.cp1_now_shelves_pieces z.cp1_now_lots_count z.cp1_now_lots_product z.cp1_now_lots_last z.cp1_now_lots_cost z.cp1_now_lots_state z.cp1_now_orders_count z.cp1_now_orders_had z.cp3) (fun r1 o3 =>
  (bnd2 (f_Y8_lotAt v1 v2 z.cp2_raised z.cp2_w) (fun r4 o6 =>
  (bnd1 (f_Y8_thrown o6) (fun r7 =>
  ((if r7 = r1 then (if r1 = 0 then gd 0 1 ((if (lg_cmp (o3 (0 : Int32).toNatClampNeg) r4.toInt64) = 0 then some (z.cp1_acts, z.cp1_nextSlot, z.cp1_now_today, z.cp1_now_products, z.cp1_now_itemCount, z.cp1_now_items, z.cp1_now_books, z.cp1_now_terms, z.cp1_now_shelves_lanes, z.cp1_now_shelves_positions, z.cp1_now_shelves_room, z.cp1_now_shelves_gap, z.cp1_now_shelves_places, z.cp1_now_shelves_picked, z.cp1_now_shelves_lot, z.cp1_now_shelves_pieces, z.cp1_now_shelves_mark, z.cp1_now_shelves_byDistance, z.cp1_now_lots_count, z.cp1_now_lots_product, z.cp1_now_lots_last, z.cp1_now_lots_cost, z.cp1_now_lots_state, z.cp1_now_lots_byLast, z.cp1_now_orders_count, z.cp1_now_orders_gifts, z.cp1_now_orders_customer, z.cp1_now_orders_product, z.cp1_now_orders_open, z.cp1_now_orders_due, z.cp1_now_orders_life, z.cp1_now_orders_byDue, z.cp1_now_orders_had, z.cp1_now_orders_stamps, z.cp1_hk, z.cp1_st, z.cp1_plan_terms, z.cp1_plan_low, z.cp1_plan_high, z.cp1_plan_bottom, z.cp1_plan_cost, z.cp1_plan_act, z.cp1_picker_deepest, z.cp1_picker_shallowest, z.cp1_picker_widest, z.cp1_picker_least, z.cp1_picker_next, z.cp1_rest, z.cp1_packed, o6, z.cp2_undos, z.cp2_eldest, z.cp2_w, z.cp2_kept, z.cp2_copy, z.cp2_near, z.cp2_isDone, z.cp2_lane, z.cp2_position, z.cp2_least, z.cp2_boxesOf, z.cp2_staying, z.cp2_planned, z.cp2_scale, o3)
  else none))
  else some (z.cp1_acts, z.cp1_nextSlot, z.cp1_now_today, z.cp1_now_products, z.cp1_now_itemCount, z.cp1_now_items, z.cp1_now_books, z.cp1_now_terms, z.cp1_now_shelves_lanes, z.cp1_now_shelves_positions, z.cp1_now_shelves_room, z.cp1_now_shelves_gap, z.cp1_now_shelves_places, z.cp1_now_shelves_picked, z.cp1_now_shelves_lot, z.cp1_now_shelves_pieces, z.cp1_now_shelves_mark, z.cp1_now_shelves_byDistance, z.cp1_now_lots_count, z.cp1_now_lots_product, z.cp1_now_lots_last, z.cp1_now_lots_cost, z.cp1_now_lots_state, z.cp1_now_lots_byLast, z.cp1_now_orders_count, z.cp1_now_orders_gifts, z.cp1_now_orders_customer, z.cp1_now_orders_product, z.cp1_now_orders_open, z.cp1_now_orders_due, z.cp1_now_orders_life, z.cp1_now_orders_byDue, z.cp1_now_orders_had, z.cp1_now_orders_stamps, z.cp1_hk, z.cp1_st, z.cp1_plan_terms, z.cp1_plan_low, z.cp1_plan_high, z.cp1_plan_bottom, z.cp1_plan_cost, z.cp1_plan_act, z.cp1_picker_deepest, z.cp1_picker_shallowest, z.cp1_picker_widest, z.cp1_picker_least, z.cp1_picker_next, z.cp1_rest, z.cp1_packed, o6, z.cp2_undos, z.cp2_eldest, z.cp2_w, z.cp2_kept, z.cp2_copy, z.cp2_near, z.cp2_isDone, z.cp2_lane, z.cp2_position, z.cp2_least, z.cp2_boxesOf, z.cp2_staying, z.cp2_planned, z.cp2_scale, o3))
  else none)))))))
def f_c10 (v1 v2 v3 v4 v5 : Int32) (z : LwS) : Option LwS :=
  bnd1 (f_X7_lotCount z.cp1_now_lots_count) (fun r1 =>
  (bnd2 (f_Y8_lotCount z.cp2_raised z.cp2_w) (fun r3 o5 =>
  ((if r1 = r3 then some (z.cp1_acts, z.cp1_nextSlot, z.cp1_now_today, z.cp1_now_products, z.cp1_now_itemCount, z.cp1_now_items, z.cp1_now_books, z.cp1_now_terms, z.cp1_now_shelves_lanes, z.cp1_now_shelves_positions, z.cp1_now_shelves_room, z.cp1_now_shelves_gap, z.cp1_now_shelves_places, z.cp1_now_shelves_picked, z.cp1_now_shelves_lot, z.cp1_now_shelves_pieces, z.cp1_now_shelves_mark, z.cp1_now_shelves_byDistance, z.cp1_now_lots_count, z.cp1_now_lots_product, z.cp1_now_lots_last, z.cp1_now_lots_cost, z.cp1_now_lots_state, z.cp1_now_lots_byLast, z.cp1_now_orders_count, z.cp1_now_orders_gifts, z.cp1_now_orders_customer, z.cp1_now_orders_product, z.cp1_now_orders_open, z.cp1_now_orders_due, z.cp1_now_orders_life, z.cp1_now_orders_byDue, z.cp1_now_orders_had, z.cp1_now_orders_stamps, z.cp1_hk, z.cp1_st, z.cp1_plan_terms, z.cp1_plan_low, z.cp1_plan_high, z.cp1_plan_bottom, z.cp1_plan_cost, z.cp1_plan_act, z.cp1_picker_deepest, z.cp1_picker_shallowest, z.cp1_picker_widest, z.cp1_picker_least, z.cp1_picker_next, z.cp1_rest, z.cp1_packed, o5, z.cp2_undos, z.cp2_eldest, z.cp2_w, z.cp2_kept, z.cp2_copy, z.cp2_near, z.cp2_isDone, z.cp2_lane, z.cp2_position, z.cp2_least, z.cp2_boxesOf, z.cp2_staying, z.cp2_planned, z.cp2_scale, z.cp3)
  else none)))))
def f_c11 (v1 v2 v3 v4 v5 : Int32) (z : LwS) : Option LwS :=
  bnd3 (f_W_stock v1 z.cp1_now_products z.cp1_now_shelves_places z.cp1_now_shelves_lot z.cp1_now_shelves_pieces z.cp1_now_lots_count z.cp1_now_lots_product z.cp1_rest z.cp3) (fun r1 o3 o4 =>
  (bnd2 (f_Y8_stock v1 z.cp2_raised z.cp2_w) (fun r5 o7 =>
  (bnd1 (f_Y8_thrown o7) (fun r8 =>
  ((if r8 = r1 then (if r1 = 0 then gd 0 1 ((if (lg_cmp (o4 (0 : Int32).toNatClampNeg) r5.toInt64) = 0 then some (z.cp1_acts, z.cp1_nextSlot, z.cp1_now_today, z.cp1_now_products, z.cp1_now_itemCount, z.cp1_now_items, z.cp1_now_books, z.cp1_now_terms, z.cp1_now_shelves_lanes, z.cp1_now_shelves_positions, z.cp1_now_shelves_room, z.cp1_now_shelves_gap, z.cp1_now_shelves_places, z.cp1_now_shelves_picked, z.cp1_now_shelves_lot, z.cp1_now_shelves_pieces, z.cp1_now_shelves_mark, z.cp1_now_shelves_byDistance, z.cp1_now_lots_count, z.cp1_now_lots_product, z.cp1_now_lots_last, z.cp1_now_lots_cost, z.cp1_now_lots_state, z.cp1_now_lots_byLast, z.cp1_now_orders_count, z.cp1_now_orders_gifts, z.cp1_now_orders_customer, z.cp1_now_orders_product, z.cp1_now_orders_open, z.cp1_now_orders_due, z.cp1_now_orders_life, z.cp1_now_orders_byDue, z.cp1_now_orders_had, z.cp1_now_orders_stamps, z.cp1_hk, z.cp1_st, z.cp1_plan_terms, z.cp1_plan_low, z.cp1_plan_high, z.cp1_plan_bottom, z.cp1_plan_cost, z.cp1_plan_act, z.cp1_picker_deepest, z.cp1_picker_shallowest, z.cp1_picker_widest, z.cp1_picker_least, z.cp1_picker_next, o3, z.cp1_packed, o7, z.cp2_undos, z.cp2_eldest, z.cp2_w, z.cp2_kept, z.cp2_copy, z.cp2_near, z.cp2_isDone, z.cp2_lane, z.cp2_position, z.cp2_least, z.cp2_boxesOf, z.cp2_staying, z.cp2_planned, z.cp2_scale, o4)
  else none))
  else some (z.cp1_acts, z.cp1_nextSlot, z.cp1_now_today, z.cp1_now_products, z.cp1_now_itemCount, z.cp1_now_items, z.cp1_now_books, z.cp1_now_terms, z.cp1_now_shelves_lanes, z.cp1_now_shelves_positions, z.cp1_now_shelves_room, z.cp1_now_shelves_gap, z.cp1_now_shelves_places, z.cp1_now_shelves_picked, z.cp1_now_shelves_lot, z.cp1_now_shelves_pieces, z.cp1_now_shelves_mark, z.cp1_now_shelves_byDistance, z.cp1_now_lots_count, z.cp1_now_lots_product, z.cp1_now_lots_last, z.cp1_now_lots_cost, z.cp1_now_lots_state, z.cp1_now_lots_byLast, z.cp1_now_orders_count, z.cp1_now_orders_gifts, z.cp1_now_orders_customer, z.cp1_now_orders_product, z.cp1_now_orders_open, z.cp1_now_orders_due, z.cp1_now_orders_life, z.cp1_now_orders_byDue, z.cp1_now_orders_had, z.cp1_now_orders_stamps, z.cp1_hk, z.cp1_st, z.cp1_plan_terms, z.cp1_plan_low, z.cp1_plan_high, z.cp1_plan_bottom, z.cp1_plan_cost, z.cp1_plan_act, z.cp1_picker_deepest, z.cp1_picker_shallowest, z.cp1_picker_widest, z.cp1_picker_least, z.cp1_picker_next, o3, z.cp1_packed, o7, z.cp2_undos, z.cp2_eldest, z.cp2_w, z.cp2_kept, z.cp2_copy, z.cp2_near, z.cp2_isDone, z.cp2_lane, z.cp2_position, z.cp2_least, z.cp2_boxesOf, z.cp2_staying, z.cp2_planned, z.cp2_scale, o4))
  else none)))))))
def f_c12 (v1 v2 v3 v4 v5 : Int32) (z : LwS) : Option LwS :=
  bnd3 (f_W_stockCost v1 z.cp1_now_products z.cp1_now_shelves_places z.cp1_now_shelves_lot z.cp1_now_shelves_pieces z.cp1_now_lots_count z.cp1_now_lots_product z.cp1_now_lots_cost z.cp1_rest z.cp3) (fun r1 o3 o4 =>
  (bnd2 (f_Y8_stockCost v1 z.cp2_raised z.cp2_w) (fun r5 o7 =>
  (bnd1 (f_Y8_thrown o7) (fun r8 =>
  ((if r8 = r1 then (if r1 = 0 then gd 0 1 ((if (lg_cmp (o4 (0 : Int32).toNatClampNeg) r5) = 0 then some (z.cp1_acts, z.cp1_nextSlot, z.cp1_now_today, z.cp1_now_products, z.cp1_now_itemCount, z.cp1_now_items, z.cp1_now_books, z.cp1_now_terms, z.cp1_now_shelves_lanes, z.cp1_now_shelves_positions, z.cp1_now_shelves_room, z.cp1_now_shelves_gap, z.cp1_now_shelves_places, z.cp1_now_shelves_picked, z.cp1_now_shelves_lot, z.cp1_now_shelves_pieces, z.cp1_now_shelves_mark, z.cp1_now_shelves_byDistance, z.cp1_now_lots_count, z.cp1_now_lots_product, z.cp1_now_lots_last, z.cp1_now_lots_cost, z.cp1_now_lots_state, z.cp1_now_lots_byLast, z.cp1_now_orders_count, z.cp1_now_orders_gifts, z.cp1_now_orders_customer, z.cp1_now_orders_product, z.cp1_now_orders_open, z.cp1_now_orders_due, z.cp1_now_orders_life, z.cp1_now_orders_byDue, z.cp1_now_orders_had, z.cp1_now_orders_stamps, z.cp1_hk, z.cp1_st, z.cp1_plan_terms, z.cp1_plan_low, z.cp1_plan_high, z.cp1_plan_bottom, z.cp1_plan_cost, z.cp1_plan_act, z.cp1_picker_deepest, z.cp1_picker_shallowest, z.cp1_picker_widest, z.cp1_picker_least, z.cp1_picker_next, o3, z.cp1_packed, o7, z.cp2_undos, z.cp2_eldest, z.cp2_w, z.cp2_kept, z.cp2_copy, z.cp2_near, z.cp2_isDone, z.cp2_lane, z.cp2_position, z.cp2_least, z.cp2_boxesOf, z.cp2_staying, z.cp2_planned, z.cp2_scale, o4)
  else none))
  else some (z.cp1_acts, z.cp1_nextSlot, z.cp1_now_today, z.cp1_now_products, z.cp1_now_itemCount, z.cp1_now_items, z.cp1_now_books, z.cp1_now_terms, z.cp1_now_shelves_lanes, z.cp1_now_shelves_positions, z.cp1_now_shelves_room, z.cp1_now_shelves_gap, z.cp1_now_shelves_places, z.cp1_now_shelves_picked, z.cp1_now_shelves_lot, z.cp1_now_shelves_pieces, z.cp1_now_shelves_mark, z.cp1_now_shelves_byDistance, z.cp1_now_lots_count, z.cp1_now_lots_product, z.cp1_now_lots_last, z.cp1_now_lots_cost, z.cp1_now_lots_state, z.cp1_now_lots_byLast, z.cp1_now_orders_count, z.cp1_now_orders_gifts, z.cp1_now_orders_customer, z.cp1_now_orders_product, z.cp1_now_orders_open, z.cp1_now_orders_due, z.cp1_now_orders_life, z.cp1_now_orders_byDue, z.cp1_now_orders_had, z.cp1_now_orders_stamps, z.cp1_hk, z.cp1_st, z.cp1_plan_terms, z.cp1_plan_low, z.cp1_plan_high, z.cp1_plan_bottom, z.cp1_plan_cost, z.cp1_plan_act, z.cp1_picker_deepest, z.cp1_picker_shallowest, z.cp1_picker_widest, z.cp1_picker_least, z.cp1_picker_next, o3, z.cp1_packed, o7, z.cp2_undos, z.cp2_eldest, z.cp2_w, z.cp2_kept, z.cp2_copy, z.cp2_near, z.cp2_isDone, z.cp2_lane, z.cp2_position, z.cp2_least, z.cp2_boxesOf, z.cp2_staying, z.cp2_planned, z.cp2_scale, o4))
  else none)))))))
def f_c13 (v1 v2 v3 v4 v5 : Int32) (z : LwS) : Option LwS :=
  bnd2 (f_W_customersOf v1 z.cp1_now_lots_count z.cp1_now_orders_count z.cp1_now_orders_customer z.cp1_now_orders_had z.cp3) (fun r1 o3 =>
  (bnd2 (f_Y8_customersOf v1 z.cp2_raised z.cp2_w) (fun r4 o6 =>
  (bnd1 (f_Y8_thrown o6) (fun r7 =>
  ((if r7 = r1 then (if r1 = 0 then gd 0 1 ((if (lg_cmp (o3 (0 : Int32).toNatClampNeg) r4.toInt64) = 0 then some (z.cp1_acts, z.cp1_nextSlot, z.cp1_now_today, z.cp1_now_products, z.cp1_now_itemCount, z.cp1_now_items, z.cp1_now_books, z.cp1_now_terms, z.cp1_now_shelves_lanes, z.cp1_now_shelves_positions, z.cp1_now_shelves_room, z.cp1_now_shelves_gap, z.cp1_now_shelves_places, z.cp1_now_shelves_picked, z.cp1_now_shelves_lot, z.cp1_now_shelves_pieces, z.cp1_now_shelves_mark, z.cp1_now_shelves_byDistance, z.cp1_now_lots_count, z.cp1_now_lots_product, z.cp1_now_lots_last, z.cp1_now_lots_cost, z.cp1_now_lots_state, z.cp1_now_lots_byLast, z.cp1_now_orders_count, z.cp1_now_orders_gifts, z.cp1_now_orders_customer, z.cp1_now_orders_product, z.cp1_now_orders_open, z.cp1_now_orders_due, z.cp1_now_orders_life, z.cp1_now_orders_byDue, z.cp1_now_orders_had, z.cp1_now_orders_stamps, z.cp1_hk, z.cp1_st, z.cp1_plan_terms, z.cp1_plan_low, z.cp1_plan_high, z.cp1_plan_bottom, z.cp1_plan_cost, z.cp1_plan_act, z.cp1_picker_deepest, z.cp1_picker_shallowest, z.cp1_picker_widest, z.cp1_picker_least, z.cp1_picker_next, z.cp1_rest, z.cp1_packed, o6, z.cp2_undos, z.cp2_eldest, z.cp2_w, z.cp2_kept, z.cp2_copy, z.cp2_near, z.cp2_isDone, z.cp2_lane, z.cp2_position, z.cp2_least, z.cp2_boxesOf, z.cp2_staying, z.cp2_planned, z.cp2_scale, o3)
  else none))
  else some (z.cp1_acts, z.cp1_nextSlot, z.cp1_now_today, z.cp1_now_products, z.cp1_now_itemCount, z.cp1_now_items, z.cp1_now_books, z.cp1_now_terms, z.cp1_now_shelves_lanes, z.cp1_now_shelves_positions, z.cp1_now_shelves_room, z.cp1_now_shelves_gap, z.cp1_now_shelves_places, z.cp1_now_shelves_picked, z.cp1_now_shelves_lot, z.cp1_now_shelves_pieces, z.cp1_now_shelves_mark, z.cp1_now_shelves_byDistance, z.cp1_now_lots_count, z.cp1_now_lots_product, z.cp1_now_lots_last, z.cp1_now_lots_cost, z.cp1_now_lots_state, z.cp1_now_lots_byLast, z.cp1_now_orders_count, z.cp1_now_orders_gifts, z.cp1_now_orders_customer, z.cp1_now_orders_product, z.cp1_now_orders_open, z.cp1_now_orders_due, z.cp1_now_orders_life, z.cp1_now_orders_byDue, z.cp1_now_orders_had, z.cp1_now_orders_stamps, z.cp1_hk, z.cp1_st, z.cp1_plan_terms, z.cp1_plan_low, z.cp1_plan_high, z.cp1_plan_bottom, z.cp1_plan_cost, z.cp1_plan_act, z.cp1_picker_deepest, z.cp1_picker_shallowest, z.cp1_picker_widest, z.cp1_picker_least, z.cp1_picker_next, z.cp1_rest, z.cp1_packed, o6, z.cp2_undos, z.cp2_eldest, z.cp2_w, z.cp2_kept, z.cp2_copy, z.cp2_near, z.cp2_isDone, z.cp2_lane, z.cp2_position, z.cp2_least, z.cp2_boxesOf, z.cp2_staying, z.cp2_planned, z.cp2_scale, o3))
  else none)))))))
def f_c14 (v1 v2 v3 v4 v5 : Int32) (z : LwS) : Option LwS :=
  bnd1 (f_X7_placeCount z.cp1_now_shelves_places) (fun r1 =>
  (bnd2 (f_Y8_placeCount z.cp2_raised z.cp2_w) (fun r3 o5 =>
  ((if r1 = r3 then some (z.cp1_acts, z.cp1_nextSlot, z.cp1_now_today, z.cp1_now_products, z.cp1_now_itemCount, z.cp1_now_items, z.cp1_now_books, z.cp1_now_terms, z.cp1_now_shelves_lanes, z.cp1_now_shelves_positions, z.cp1_now_shelves_room, z.cp1_now_shelves_gap, z.cp1_now_shelves_places, z.cp1_now_shelves_picked, z.cp1_now_shelves_lot, z.cp1_now_shelves_pieces, z.cp1_now_shelves_mark, z.cp1_now_shelves_byDistance, z.cp1_now_lots_count, z.cp1_now_lots_product, z.cp1_now_lots_last, z.cp1_now_lots_cost, z.cp1_now_lots_state, z.cp1_now_lots_byLast, z.cp1_now_orders_count, z.cp1_now_orders_gifts, z.cp1_now_orders_customer, z.cp1_now_orders_product, z.cp1_now_orders_open, z.cp1_now_orders_due, z.cp1_now_orders_life, z.cp1_now_orders_byDue, z.cp1_now_orders_had, z.cp1_now_orders_stamps, z.cp1_hk, z.cp1_st, z.cp1_plan_terms, z.cp1_plan_low, z.cp1_plan_high, z.cp1_plan_bottom, z.cp1_plan_cost, z.cp1_plan_act, z.cp1_picker_deepest, z.cp1_picker_shallowest, z.cp1_picker_widest, z.cp1_picker_least, z.cp1_picker_next, z.cp1_rest, z.cp1_packed, o5, z.cp2_undos, z.cp2_eldest, z.cp2_w, z.cp2_kept, z.cp2_copy, z.cp2_near, z.cp2_isDone, z.cp2_lane, z.cp2_position, z.cp2_least, z.cp2_boxesOf, z.cp2_staying, z.cp2_planned, z.cp2_scale, z.cp3)
  else none)))))
def f_c15 (v1 v2 v3 v4 v5 : Int32) (z : LwS) : Option LwS :=
  bnd2 (f_W_placeAt v1 v2 z.cp1_now_shelves_positions z.cp1_now_shelves_gap z.cp1_now_shelves_places z.cp1_now_shelves_lot z.cp1_now_shelves_pieces z.cp1_now_shelves_mark z.cp3) (fun r1 o3 =>
  (bnd2 (f_Y8_placeAt v1 v2 z.cp2_raised z.cp2_w) (fun r4 o6 =>
  (bnd1 (f_Y8_thrown o6) (fun r7 =>
  ((if r7 = r1 then (if r1 = 0 then gd 0 1 ((if (lg_cmp (o3 (0 : Int32).toNatClampNeg) r4.toInt64) = 0 then some (z.cp1_acts, z.cp1_nextSlot, z.cp1_now_today, z.cp1_now_products, z.cp1_now_itemCount, z.cp1_now_items, z.cp1_now_books, z.cp1_now_terms, z.cp1_now_shelves_lanes, z.cp1_now_shelves_positions, z.cp1_now_shelves_room, z.cp1_now_shelves_gap, z.cp1_now_shelves_places, z.cp1_now_shelves_picked, z.cp1_now_shelves_lot, z.cp1_now_shelves_pieces, z.cp1_now_shelves_mark, z.cp1_now_shelves_byDistance, z.cp1_now_lots_count, z.cp1_now_lots_product, z.cp1_now_lots_last, z.cp1_now_lots_cost, z.cp1_now_lots_state, z.cp1_now_lots_byLast, z.cp1_now_orders_count, z.cp1_now_orders_gifts, z.cp1_now_orders_customer, z.cp1_now_orders_product, z.cp1_now_orders_open, z.cp1_now_orders_due, z.cp1_now_orders_life, z.cp1_now_orders_byDue, z.cp1_now_orders_had, z.cp1_now_orders_stamps, z.cp1_hk, z.cp1_st, z.cp1_plan_terms, z.cp1_plan_low, z.cp1_plan_high, z.cp1_plan_bottom, z.cp1_plan_cost, z.cp1_plan_act, z.cp1_picker_deepest, z.cp1_picker_shallowest, z.cp1_picker_widest, z.cp1_picker_least, z.cp1_picker_next, z.cp1_rest, z.cp1_packed, o6, z.cp2_undos, z.cp2_eldest, z.cp2_w, z.cp2_kept, z.cp2_copy, z.cp2_near, z.cp2_isDone, z.cp2_lane, z.cp2_position, z.cp2_least, z.cp2_boxesOf, z.cp2_staying, z.cp2_planned, z.cp2_scale, o3)
  else none))
  else some (z.cp1_acts, z.cp1_nextSlot, z.cp1_now_today, z.cp1_now_products, z.cp1_now_itemCount, z.cp1_now_items, z.cp1_now_books, z.cp1_now_terms, z.cp1_now_shelves_lanes, z.cp1_now_shelves_positions, z.cp1_now_shelves_room, z.cp1_now_shelves_gap, z.cp1_now_shelves_places, z.cp1_now_shelves_picked, z.cp1_now_shelves_lot, z.cp1_now_shelves_pieces, z.cp1_now_shelves_mark, z.cp1_now_shelves_byDistance, z.cp1_now_lots_count, z.cp1_now_lots_product, z.cp1_now_lots_last, z.cp1_now_lots_cost, z.cp1_now_lots_state, z.cp1_now_lots_byLast, z.cp1_now_orders_count, z.cp1_now_orders_gifts, z.cp1_now_orders_customer, z.cp1_now_orders_product, z.cp1_now_orders_open, z.cp1_now_orders_due, z.cp1_now_orders_life, z.cp1_now_orders_byDue, z.cp1_now_orders_had, z.cp1_now_orders_stamps, z.cp1_hk, z.cp1_st, z.cp1_plan_terms, z.cp1_plan_low, z.cp1_plan_high, z.cp1_plan_bottom, z.cp1_plan_cost, z.cp1_plan_act, z.cp1_picker_deepest, z.cp1_picker_shallowest, z.cp1_picker_widest, z.cp1_picker_least, z.cp1_picker_next, z.cp1_rest, z.cp1_packed, o6, z.cp2_undos, z.cp2_eldest, z.cp2_w, z.cp2_kept, z.cp2_copy, z.cp2_near, z.cp2_isDone, z.cp2_lane, z.cp2_position, z.cp2_least, z.cp2_boxesOf, z.cp2_staying, z.cp2_planned, z.cp2_scale, o3))
  else none)))))))
def f_c16 (v1 v2 v3 v4 v5 : Int32) (z : LwS) : Option LwS :=
  bnd2 (f_W_firstFree z.cp1_now_shelves_places z.cp1_now_shelves_pieces z.cp1_now_shelves_byDistance z.cp3) (fun r1 o3 =>
  (bnd2 (f_Y8_firstFree z.cp2_raised z.cp2_w z.cp2_near) (fun r4 o6 =>
  (bnd1 (f_Y8_thrown o6) (fun r7 =>
  ((if r7 = r1 then (if r1 = 0 then gd 0 1 ((if (lg_cmp (o3 (0 : Int32).toNatClampNeg) r4.toInt64) = 0 then some (z.cp1_acts, z.cp1_nextSlot, z.cp1_now_today, z.cp1_now_products, z.cp1_now_itemCount, z.cp1_now_items, z.cp1_now_books, z.cp1_now_terms, z.cp1_now_shelves_lanes, z.cp1_now_shelves_positions, z.cp1_now_shelves_room, z.cp1_now_shelves_gap, z.cp1_now_shelves_places, z.cp1_now_shelves_picked, z.cp1_now_shelves_lot, z.cp1_now_shelves_pieces, z.cp1_now_shelves_mark, z.cp1_now_shelves_byDistance, z.cp1_now_lots_count, z.cp1_now_lots_product, z.cp1_now_lots_last, z.cp1_now_lots_cost, z.cp1_now_lots_state, z.cp1_now_lots_byLast, z.cp1_now_orders_count, z.cp1_now_orders_gifts, z.cp1_now_orders_customer, z.cp1_now_orders_product, z.cp1_now_orders_open, z.cp1_now_orders_due, z.cp1_now_orders_life, z.cp1_now_orders_byDue, z.cp1_now_orders_had, z.cp1_now_orders_stamps, z.cp1_hk, z.cp1_st, z.cp1_plan_terms, z.cp1_plan_low, z.cp1_plan_high, z.cp1_plan_bottom, z.cp1_plan_cost, z.cp1_plan_act, z.cp1_picker_deepest, z.cp1_picker_shallowest, z.cp1_picker_widest, z.cp1_picker_least, z.cp1_picker_next, z.cp1_rest, z.cp1_packed, o6, z.cp2_undos, z.cp2_eldest, z.cp2_w, z.cp2_kept, z.cp2_copy, z.cp2_near, z.cp2_isDone, z.cp2_lane, z.cp2_position, z.cp2_least, z.cp2_boxesOf, z.cp2_staying, z.cp2_planned, z.cp2_scale, o3)
  else none))
  else some (z.cp1_acts, z.cp1_nextSlot, z.cp1_now_today, z.cp1_now_products, z.cp1_now_itemCount, z.cp1_now_items, z.cp1_now_books, z.cp1_now_terms, z.cp1_now_shelves_lanes, z.cp1_now_shelves_positions, z.cp1_now_shelves_room, z.cp1_now_shelves_gap, z.cp1_now_shelves_places, z.cp1_now_shelves_picked, z.cp1_now_shelves_lot, z.cp1_now_shelves_pieces, z.cp1_now_shelves_mark, z.cp1_now_shelves_byDistance, z.cp1_now_lots_count, z.cp1_now_lots_product, z.cp1_now_lots_last, z.cp1_now_lots_cost, z.cp1_now_lots_state, z.cp1_now_lots_byLast, z.cp1_now_orders_count, z.cp1_now_orders_gifts, z.cp1_now_orders_customer, z.cp1_now_orders_product, z.cp1_now_orders_open, z.cp1_now_orders_due, z.cp1_now_orders_life, z.cp1_now_orders_byDue, z.cp1_now_orders_had, z.cp1_now_orders_stamps, z.cp1_hk, z.cp1_st, z.cp1_plan_terms, z.cp1_plan_low, z.cp1_plan_high, z.cp1_plan_bottom, z.cp1_plan_cost, z.cp1_plan_act, z.cp1_picker_deepest, z.cp1_picker_shallowest, z.cp1_picker_widest, z.cp1_picker_least, z.cp1_picker_next, z.cp1_rest, z.cp1_packed, o6, z.cp2_undos, z.cp2_eldest, z.cp2_w, z.cp2_kept, z.cp2_copy, z.cp2_near, z.cp2_isDone, z.cp2_lane, z.cp2_position, z.cp2_least, z.cp2_boxesOf, z.cp2_staying, z.cp2_planned, z.cp2_scale, o3))
  else none)))))))
def f_c17 (v1 v2 v3 v4 v5 : Int32) (z : LwS) : Option LwS :=
  bnd10 (f_W_count v1 v2 z.cp1_acts z.cp1_nextSlot z.cp1_hk z.cp1_st z.cp1_now_today z.cp1_now_products z.cp1_now_itemCount z.cp1_now_items z.cp1_now_books z.cp1_now_terms z.cp1_now_shelves_lanes z.cp1_now_shelves_positions z.cp1_now_shelves_room z.cp1_now_shelves_gap z.cp1_now_shelves_places z.cp1_now_shelves_picked z.cp1_now_shelves_lot z.cp1_now_shelves_pieces z.cp1_now_shelves_mark z.cp1_now_shelves_byDistance z.cp1_now_lots_count z.cp1_now_lots_product z.cp1_now_lots_last z.cp1_now_lots_cost z.cp1_now_lots_state z.cp1_now_lots_byLast z.cp1_now_orders_count z.cp1_now_orders_gifts z.cp1_now_orders_customer z.cp1_now_orders_product z.cp1_now_orders_open z.cp1_now_orders_due z.cp1_now_orders_life z.cp1_now_orders_byDue z.cp1_now_orders_had z.cp1_now_orders_stamps z.cp3) (fun r1 o3 o4 o5 o6 o7 o8 o9 o10 o11 =>
  (bnd6 (f_Y8_count v1 v2 z.cp2_raised z.cp2_undos z.cp2_eldest z.cp2_w z.cp2_kept) (fun r12 o14 o15 o16 o17 o18 =>
  (bnd1 (f_Y8_thrown o14) (fun r19 =>
  ((if r19 = r1 then (if r1 = 0 then gd 0 1 ((if (lg_cmp (o11 (0 : Int32).toNatClampNeg) r12.toInt64) = 0 then some (o3, o4, z.cp1_now_today, z.cp1_now_products, z.cp1_now_itemCount, z.cp1_now_items, o7, z.cp1_now_terms, z.cp1_now_shelves_lanes, z.cp1_now_shelves_positions, z.cp1_now_shelves_room, z.cp1_now_shelves_gap, z.cp1_now_shelves_places, z.cp1_now_shelves_picked, o8, o9, o10, z.cp1_now_shelves_byDistance, z.cp1_now_lots_count, z.cp1_now_lots_product, z.cp1_now_lots_last, z.cp1_now_lots_cost, z.cp1_now_lots_state, z.cp1_now_lots_byLast, z.cp1_now_orders_count, z.cp1_now_orders_gifts, z.cp1_now_orders_customer, z.cp1_now_orders_product, z.cp1_now_orders_open, z.cp1_now_orders_due, z.cp1_now_orders_life, z.cp1_now_orders_byDue, z.cp1_now_orders_had, z.cp1_now_orders_stamps, o5, o6, z.cp1_plan_terms, z.cp1_plan_low, z.cp1_plan_high, z.cp1_plan_bottom, z.cp1_plan_cost, z.cp1_plan_act, z.cp1_picker_deepest, z.cp1_picker_shallowest, z.cp1_picker_widest, z.cp1_picker_least, z.cp1_picker_next, z.cp1_rest, z.cp1_packed, o14, o15, o16, o17, o18, z.cp2_copy, z.cp2_near, z.cp2_isDone, z.cp2_lane, z.cp2_position, z.cp2_least, z.cp2_boxesOf, z.cp2_staying, z.cp2_planned, z.cp2_scale, o11)
  else none))
  else some (o3, o4, z.cp1_now_today, z.cp1_now_products, z.cp1_now_itemCount, z.cp1_now_items, o7, z.cp1_now_terms, z.cp1_now_shelves_lanes, z.cp1_now_shelves_positions, z.cp1_now_shelves_room, z.cp1_now_shelves_gap, z.cp1_now_shelves_places, z.cp1_now_shelves_picked, o8, o9, o10, z.cp1_now_shelves_byDistance, z.cp1_now_lots_count, z.cp1_now_lots_product, z.cp1_now_lots_last, z.cp1_now_lots_cost, z.cp1_now_lots_state, z.cp1_now_lots_byLast, z.cp1_now_orders_count, z.cp1_now_orders_gifts, z.cp1_now_orders_customer, z.cp1_now_orders_product, z.cp1_now_orders_open, z.cp1_now_orders_due, z.cp1_now_orders_life, z.cp1_now_orders_byDue, z.cp1_now_orders_had, z.cp1_now_orders_stamps, o5, o6, z.cp1_plan_terms, z.cp1_plan_low, z.cp1_plan_high, z.cp1_plan_bottom, z.cp1_plan_cost, z.cp1_plan_act, z.cp1_picker_deepest, z.cp1_picker_shallowest, z.cp1_picker_widest, z.cp1_picker_least, z.cp1_picker_next, z.cp1_rest, z.cp1_packed, o14, o15, o16, o17, o18, z.cp2_copy, z.cp2_near, z.cp2_isDone, z.cp2_lane, z.cp2_position, z.cp2_least, z.cp2_boxesOf, z.cp2_staying, z.cp2_planned, z.cp2_scale, o11))
  else none)))))))
def f_c18 (v1 v2 v3 v4 v5 : Int32) (z : LwS) : Option LwS :=
  bnd10 (f_W_scrap v1 v2 z.cp1_acts z.cp1_nextSlot z.cp1_hk z.cp1_st z.cp1_now_today z.cp1_now_products z.cp1_now_itemCount z.cp1_now_items z.cp1_now_books z.cp1_now_terms z.cp1_now_shelves_lanes z.cp1_now_shelves_positions z.cp1_now_shelves_room z.cp1_now_shelves_gap z.cp1_now_shelves_places z.cp1_now_shelves_picked z.cp1_now_shelves_lot z.cp1_now_shelves_pieces z.cp1_now_shelves_mark z.cp1_now_shelves_byDistance z.cp1_now_lots_count z.cp1_now_lots_product z.cp1_now_lots_last z.cp1_now_lots_cost z.cp1_now_lots_state z.cp1_now_lots_byLast z.cp1_now_orders_count z.cp1_now_orders_gifts z.cp1_now_orders_customer z.cp1_now_orders_product z.cp1_now_orders_open z.cp1_now_orders_due z.cp1_now_orders_life z.cp1_now_orders_byDue z.cp1_now_orders_had z.cp1_now_orders_stamps z.cp3) (fun r1 o3 o4 o5 o6 o7 o8 o9 o10 o11 =>
  (bnd6 (f_Y8_scrap v1 v2 z.cp2_raised z.cp2_undos z.cp2_eldest z.cp2_w z.cp2_kept) (fun r12 o14 o15 o16 o17 o18 =>
  (bnd1 (f_Y8_thrown o14) (fun r19 =>
  ((if r19 = r1 then (if r1 = 0 then gd 0 1 ((if (lg_cmp (o11 (0 : Int32).toNatClampNeg) r12.toInt64) = 0 then some (o3, o4, z.cp1_now_today, z.cp1_now_products, z.cp1_now_itemCount, z.cp1_now_items, o7, z.cp1_now_terms, z.cp1_now_shelves_lanes, z.cp1_now_shelves_positions, z.cp1_now_shelves_room, z.cp1_now_shelves_gap, z.cp1_now_shelves_places, z.cp1_now_shelves_picked, o8, o9, o10, z.cp1_now_shelves_byDistance, z.cp1_now_lots_count, z.cp1_now_lots_product, z.cp1_now_lots_last, z.cp1_now_lots_cost, z.cp1_now_lots_state, z.cp1_now_lots_byLast, z.cp1_now_orders_count, z.cp1_now_orders_gifts, z.cp1_now_orders_customer, z.cp1_now_orders_product, z.cp1_now_orders_open, z.cp1_now_orders_due, z.cp1_now_orders_life, z.cp1_now_orders_byDue, z.cp1_now_orders_had, z.cp1_now_orders_stamps, o5, o6, z.cp1_plan_terms, z.cp1_plan_low, z.cp1_plan_high, z.cp1_plan_bottom, z.cp1_plan_cost, z.cp1_plan_act, z.cp1_picker_deepest, z.cp1_picker_shallowest, z.cp1_picker_widest, z.cp1_picker_least, z.cp1_picker_next, z.cp1_rest, z.cp1_packed, o14, o15, o16, o17, o18, z.cp2_copy, z.cp2_near, z.cp2_isDone, z.cp2_lane, z.cp2_position, z.cp2_least, z.cp2_boxesOf, z.cp2_staying, z.cp2_planned, z.cp2_scale, o11)
  else none))
  else some (o3, o4, z.cp1_now_today, z.cp1_now_products, z.cp1_now_itemCount, z.cp1_now_items, o7, z.cp1_now_terms, z.cp1_now_shelves_lanes, z.cp1_now_shelves_positions, z.cp1_now_shelves_room, z.cp1_now_shelves_gap, z.cp1_now_shelves_places, z.cp1_now_shelves_picked, o8, o9, o10, z.cp1_now_shelves_byDistance, z.cp1_now_lots_count, z.cp1_now_lots_product, z.cp1_now_lots_last, z.cp1_now_lots_cost, z.cp1_now_lots_state, z.cp1_now_lots_byLast, z.cp1_now_orders_count, z.cp1_now_orders_gifts, z.cp1_now_orders_customer, z.cp1_now_orders_product, z.cp1_now_orders_open, z.cp1_now_orders_due, z.cp1_now_orders_life, z.cp1_now_orders_byDue, z.cp1_now_orders_had, z.cp1_now_orders_stamps, o5, o6, z.cp1_plan_terms, z.cp1_plan_low, z.cp1_plan_high, z.cp1_plan_bottom, z.cp1_plan_cost, z.cp1_plan_act, z.cp1_picker_deepest, z.cp1_picker_shallowest, z.cp1_picker_widest, z.cp1_picker_least, z.cp1_picker_next, z.cp1_rest, z.cp1_packed, o14, o15, o16, o17, o18, z.cp2_copy, z.cp2_near, z.cp2_isDone, z.cp2_lane, z.cp2_position, z.cp2_least, z.cp2_boxesOf, z.cp2_staying, z.cp2_planned, z.cp2_scale, o11))
  else none)))))))
def f_c19 (v1 v2 v3 v4 v5 : Int32) (z : LwS) : Option LwS :=
  bnd9 (f_W_move v1 v2 z.cp1_acts z.cp1_nextSlot z.cp1_hk z.cp1_st z.cp1_now_today z.cp1_now_products z.cp1_now_itemCount z.cp1_now_items z.cp1_now_books z.cp1_now_terms z.cp1_now_shelves_lanes z.cp1_now_shelves_positions z.cp1_now_shelves_room z.cp1_now_shelves_gap z.cp1_now_shelves_places z.cp1_now_shelves_picked z.cp1_now_shelves_lot z.cp1_now_shelves_pieces z.cp1_now_shelves_mark z.cp1_now_shelves_byDistance z.cp1_now_lots_count z.cp1_now_lots_product z.cp1_now_lots_last z.cp1_now_lots_cost z.cp1_now_lots_state z.cp1_now_lots_byLast z.cp1_now_orders_count z.cp1_now_orders_gifts z.cp1_now_orders_customer z.cp1_now_orders_product z.cp1_now_orders_open z.cp1_now_orders_due z.cp1_now_orders_life z.cp1_now_orders_byDue z.cp1_now_orders_had z.cp1_now_orders_stamps z.cp3) (fun r1 o3 o4 o5 o6 o7 o8 o9 o10 =>
  (bnd6 (f_Y8_move v1 v2 z.cp2_raised z.cp2_undos z.cp2_eldest z.cp2_w z.cp2_kept) (fun r11 o13 o14 o15 o16 o17 =>
  (bnd1 (f_Y8_thrown o13) (fun r18 =>
  ((if r18 = r1 then (if r1 = 0 then gd 0 1 ((if (lg_cmp (o10 (0 : Int32).toNatClampNeg) r11.toInt64) = 0 then some (o3, o4, z.cp1_now_today, z.cp1_now_products, z.cp1_now_itemCount, z.cp1_now_items, z.cp1_now_books, z.cp1_now_terms, z.cp1_now_shelves_lanes, z.cp1_now_shelves_positions, z.cp1_now_shelves_room, z.cp1_now_shelves_gap, z.cp1_now_shelves_places, z.cp1_now_shelves_picked, o7, o8, o9, z.cp1_now_shelves_byDistance, z.cp1_now_lots_count, z.cp1_now_lots_product, z.cp1_now_lots_last, z.cp1_now_lots_cost, z.cp1_now_lots_state, z.cp1_now_lots_byLast, z.cp1_now_orders_count, z.cp1_now_orders_gifts, z.cp1_now_orders_customer, z.cp1_now_orders_product, z.cp1_now_orders_open, z.cp1_now_orders_due, z.cp1_now_orders_life, z.cp1_now_orders_byDue, z.cp1_now_orders_had, z.cp1_now_orders_stamps, o5, o6, z.cp1_plan_terms, z.cp1_plan_low, z.cp1_plan_high, z.cp1_plan_bottom, z.cp1_plan_cost, z.cp1_plan_act, z.cp1_picker_deepest, z.cp1_picker_shallowest, z.cp1_picker_widest, z.cp1_picker_least, z.cp1_picker_next, z.cp1_rest, z.cp1_packed, o13, o14, o15, o16, o17, z.cp2_copy, z.cp2_near, z.cp2_isDone, z.cp2_lane, z.cp2_position, z.cp2_least, z.cp2_boxesOf, z.cp2_staying, z.cp2_planned, z.cp2_scale, o10)
  else none))
  else some (o3, o4, z.cp1_now_today, z.cp1_now_products, z.cp1_now_itemCount, z.cp1_now_items, z.cp1_now_books, z.cp1_now_terms, z.cp1_now_shelves_lanes, z.cp1_now_shelves_positions, z.cp1_now_shelves_room, z.cp1_now_shelves_gap, z.cp1_now_shelves_places, z.cp1_now_shelves_picked, o7, o8, o9, z.cp1_now_shelves_byDistance, z.cp1_now_lots_count, z.cp1_now_lots_product, z.cp1_now_lots_last, z.cp1_now_lots_cost, z.cp1_now_lots_state, z.cp1_now_lots_byLast, z.cp1_now_orders_count, z.cp1_now_orders_gifts, z.cp1_now_orders_customer, z.cp1_now_orders_product, z.cp1_now_orders_open, z.cp1_now_orders_due, z.cp1_now_orders_life, z.cp1_now_orders_byDue, z.cp1_now_orders_had, z.cp1_now_orders_stamps, o5, o6, z.cp1_plan_terms, z.cp1_plan_low, z.cp1_plan_high, z.cp1_plan_bottom, z.cp1_plan_cost, z.cp1_plan_act, z.cp1_picker_deepest, z.cp1_picker_shallowest, z.cp1_picker_widest, z.cp1_picker_least, z.cp1_picker_next, z.cp1_rest, z.cp1_packed, o13, o14, o15, o16, o17, z.cp2_copy, z.cp2_near, z.cp2_isDone, z.cp2_lane, z.cp2_position, z.cp2_least, z.cp2_boxesOf, z.cp2_staying, z.cp2_planned, z.cp2_scale, o10))
  else none)))))))
def f_c20 (v1 v2 v3 v4 v5 : Int32) (z : LwS) : Option LwS :=
  bnd15 (f_W_order v1 v2 v3 v4 v5 z.cp1_acts z.cp1_nextSlot z.cp1_hk z.cp1_st z.cp1_now_today z.cp1_now_products z.cp1_now_itemCount z.cp1_now_items z.cp1_now_books z.cp1_now_terms z.cp1_now_shelves_lanes z.cp1_now_shelves_positions z.cp1_now_shelves_room z.cp1_now_shelves_gap z.cp1_now_shelves_places z.cp1_now_shelves_picked z.cp1_now_shelves_lot z.cp1_now_shelves_pieces z.cp1_now_shelves_mark z.cp1_now_shelves_byDistance z.cp1_now_lots_count z.cp1_now_lots_product z.cp1_now_lots_last z.cp1_now_lots_cost z.cp1_now_lots_state z.cp1_now_lots_byLast z.cp1_now_orders_count z.cp1_now_orders_gifts z.cp1_now_orders_customer z.cp1_now_orders_product z.cp1_now_orders_open z.cp1_now_orders_due z.cp1_now_orders_life z.cp1_now_orders_byDue z.cp1_now_orders_had z.cp1_now_orders_stamps z.cp3) (fun r1 o3 o4 o5 o6 o7 o8 o9 o10 o11 o12 o13 o14 o15 o16 =>
  (bnd6 (f_Y8_order v1 v2 v3 v4 v5 z.cp2_raised z.cp2_undos z.cp2_eldest z.cp2_w z.cp2_kept) (fun r17 o19 o20 o21 o22 o23 =>
  (bnd1 (f_Y8_thrown o19) (fun r24 =>
  ((if r24 = r1 then (if r1 = 0 then gd 0 1 ((if (lg_cmp (o16 (0 : Int32).toNatClampNeg) r17.toInt64) = 0 then some (o3, o4, z.cp1_now_today, z.cp1_now_products, z.cp1_now_itemCount, z.cp1_now_items, z.cp1_now_books, z.cp1_now_terms, z.cp1_now_shelves_lanes, z.cp1_now_shelves_positions, z.cp1_now_shelves_room, z.cp1_now_shelves_gap, z.cp1_now_shelves_places, z.cp1_now_shelves_picked, z.cp1_now_shelves_lot, z.cp1_now_shelves_pieces, z.cp1_now_shelves_mark, z.cp1_now_shelves_byDistance, z.cp1_now_lots_count, z.cp1_now_lots_product, z.cp1_now_lots_last, z.cp1_now_lots_cost, z.cp1_now_lots_state, z.cp1_now_lots_byLast, o7, z.cp1_now_orders_gifts, o8, o9, o10, o11, o12, o13, o14, o15, o5, o6, z.cp1_plan_terms, z.cp1_plan_low, z.cp1_plan_high, z.cp1_plan_bottom, z.cp1_plan_cost, z.cp1_plan_act, z.cp1_picker_deepest, z.cp1_picker_shallowest, z.cp1_picker_widest, z.cp1_picker_least, z.cp1_picker_next, z.cp1_rest, z.cp1_packed, o19, o20, o21, o22, o23, z.cp2_copy, z.cp2_near, z.cp2_isDone, z.cp2_lane, z.cp2_position, z.cp2_least, z.cp2_boxesOf, z.cp2_staying, z.cp2_planned, z.cp2_scale, o16)
  else none))
  else some (o3, o4, z.cp1_now_today, z.cp1_now_products, z.cp1_now_itemCount, z.cp1_now_items, z.cp1_now_books, z.cp1_now_terms, z.cp1_now_shelves_lanes, z.cp1_now_shelves_positions, z.cp1_now_shelves_room, z.cp1_now_shelves_gap, z.cp1_now_shelves_places, z.cp1_now_shelves_picked, z.cp1_now_shelves_lot, z.cp1_now_shelves_pieces, z.cp1_now_shelves_mark, z.cp1_now_shelves_byDistance, z.cp1_now_lots_count, z.cp1_now_lots_product, z.cp1_now_lots_last, z.cp1_now_lots_cost, z.cp1_now_lots_state, z.cp1_now_lots_byLast, o7, z.cp1_now_orders_gifts, o8, o9, o10, o11, o12, o13, o14, o15, o5, o6, z.cp1_plan_terms, z.cp1_plan_low, z.cp1_plan_high, z.cp1_plan_bottom, z.cp1_plan_cost, z.cp1_plan_act, z.cp1_picker_deepest, z.cp1_picker_shallowest, z.cp1_picker_widest, z.cp1_picker_least, z.cp1_picker_next, z.cp1_rest, z.cp1_packed, o19, o20, o21, o22, o23, z.cp2_copy, z.cp2_near, z.cp2_isDone, z.cp2_lane, z.cp2_position, z.cp2_least, z.cp2_boxesOf, z.cp2_staying, z.cp2_planned, z.cp2_scale, o16))
  else none)))))))
def f_c21 (v1 v2 v3 v4 v5 : Int32) (z : LwS) : Option LwS :=
  bnd7 (f_W_cancel v1 z.cp1_acts z.cp1_nextSlot z.cp1_hk z.cp1_st z.cp1_now_today z.cp1_now_products z.cp1_now_itemCount z.cp1_now_items z.cp1_now_books z.cp1_now_terms z.cp1_now_shelves_lanes z.cp1_now_shelves_positions z.cp1_now_shelves_room z.cp1_now_shelves_gap z.cp1_now_shelves_places z.cp1_now_shelves_picked z.cp1_now_shelves_lot z.cp1_now_shelves_pieces z.cp1_now_shelves_mark z.cp1_now_shelves_byDistance z.cp1_now_lots_count z.cp1_now_lots_product z.cp1_now_lots_last z.cp1_now_lots_cost z.cp1_now_lots_state z.cp1_now_lots_byLast z.cp1_now_orders_count z.cp1_now_orders_gifts z.cp1_now_orders_customer z.cp1_now_orders_product z.cp1_now_orders_open z.cp1_now_orders_due z.cp1_now_orders_life z.cp1_now_orders_byDue z.cp1_now_orders_had z.cp1_now_orders_stamps z.cp3) (fun r1 o3 o4 o5 o6 o7 o8 =>
  (bnd6 (f_Y8_cancel v1 z.cp2_raised z.cp2_undos z.cp2_eldest z.cp2_w z.cp2_kept) (fun r9 o11 o12 o13 o14 o15 =>
  (bnd1 (f_Y8_thrown o11) (fun r16 =>
  ((if r16 = r1 then (if r1 = 0 then gd 0 1 ((if (lg_cmp (o8 (0 : Int32).toNatClampNeg) r9.toInt64) = 0 then some (o3, o4, z.cp1_now_today, z.cp1_now_products, z.cp1_now_itemCount, z.cp1_now_items, z.cp1_now_books, z.cp1_now_terms, z.cp1_now_shelves_lanes, z.cp1_now_shelves_positions, z.cp1_now_shelves_room, z.cp1_now_shelves_gap, z.cp1_now_shelves_places, z.cp1_now_shelves_picked, z.cp1_now_shelves_lot, z.cp1_now_shelves_pieces, z.cp1_now_shelves_mark, z.cp1_now_shelves_byDistance, z.cp1_now_lots_count, z.cp1_now_lots_product, z.cp1_now_lots_last, z.cp1_now_lots_cost, z.cp1_now_lots_state, z.cp1_now_lots_byLast, z.cp1_now_orders_count, z.cp1_now_orders_gifts, z.cp1_now_orders_customer, z.cp1_now_orders_product, o7, z.cp1_now_orders_due, z.cp1_now_orders_life, z.cp1_now_orders_byDue, z.cp1_now_orders_had, z.cp1_now_orders_stamps, o5, o6, z.cp1_plan_terms, z.cp1_plan_low, z.cp1_plan_high, z.cp1_plan_bottom, z.cp1_plan_cost, z.cp1_plan_act, z.cp1_picker_deepest, z.cp1_picker_shallowest, z.cp1_picker_widest, z.cp1_picker_least, z.cp1_picker_next, z.cp1_rest, z.cp1_packed, o11, o12, o13, o14, o15, z.cp2_copy, z.cp2_near, z.cp2_isDone, z.cp2_lane, z.cp2_position, z.cp2_least, z.cp2_boxesOf, z.cp2_staying, z.cp2_planned, z.cp2_scale, o8)
  else none))
  else some (o3, o4, z.cp1_now_today, z.cp1_now_products, z.cp1_now_itemCount, z.cp1_now_items, z.cp1_now_books, z.cp1_now_terms, z.cp1_now_shelves_lanes, z.cp1_now_shelves_positions, z.cp1_now_shelves_room, z.cp1_now_shelves_gap, z.cp1_now_shelves_places, z.cp1_now_shelves_picked, z.cp1_now_shelves_lot, z.cp1_now_shelves_pieces, z.cp1_now_shelves_mark, z.cp1_now_shelves_byDistance, z.cp1_now_lots_count, z.cp1_now_lots_product, z.cp1_now_lots_last, z.cp1_now_lots_cost, z.cp1_now_lots_state, z.cp1_now_lots_byLast, z.cp1_now_orders_count, z.cp1_now_orders_gifts, z.cp1_now_orders_customer, z.cp1_now_orders_product, o7, z.cp1_now_orders_due, z.cp1_now_orders_life, z.cp1_now_orders_byDue, z.cp1_now_orders_had, z.cp1_now_orders_stamps, o5, o6, z.cp1_plan_terms, z.cp1_plan_low, z.cp1_plan_high, z.cp1_plan_bottom, z.cp1_plan_cost, z.cp1_plan_act, z.cp1_picker_deepest, z.cp1_picker_shallowest, z.cp1_picker_widest, z.cp1_picker_least, z.cp1_picker_next, z.cp1_rest, z.cp1_packed, o11, o12, o13, o14, o15, z.cp2_copy, z.cp2_near, z.cp2_isDone, z.cp2_lane, z.cp2_position, z.cp2_least, z.cp2_boxesOf, z.cp2_staying, z.cp2_planned, z.cp2_scale, o8))
  else none)))))))
def f_c22 (v1 v2 v3 v4 v5 : Int32) (z : LwS) : Option LwS :=
  bnd11 (f_W_giveBack v1 v2 z.cp1_acts z.cp1_nextSlot z.cp1_hk z.cp1_st z.cp1_now_today z.cp1_now_products z.cp1_now_itemCount z.cp1_now_items z.cp1_now_books z.cp1_now_terms z.cp1_now_shelves_lanes z.cp1_now_shelves_positions z.cp1_now_shelves_room z.cp1_now_shelves_gap z.cp1_now_shelves_places z.cp1_now_shelves_picked z.cp1_now_shelves_lot z.cp1_now_shelves_pieces z.cp1_now_shelves_mark z.cp1_now_shelves_byDistance z.cp1_now_lots_count z.cp1_now_lots_product z.cp1_now_lots_last z.cp1_now_lots_cost z.cp1_now_lots_state z.cp1_now_lots_byLast z.cp1_now_orders_count z.cp1_now_orders_gifts z.cp1_now_orders_customer z.cp1_now_orders_product z.cp1_now_orders_open z.cp1_now_orders_due z.cp1_now_orders_life z.cp1_now_orders_byDue z.cp1_now_orders_had z.cp1_now_orders_stamps z.cp3) (fun r1 o3 o4 o5 o6 o7 o8 o9 o10 o11 o12 =>
  (bnd7 (f_Y8_giveBack v1 v2 z.cp2_raised z.cp2_undos z.cp2_eldest z.cp2_w z.cp2_kept z.cp2_copy z.cp2_near) (fun r13 o15 o16 o17 o18 o19 o20 =>
  (bnd1 (f_Y8_thrown o15) (fun r21 =>
  ((if r21 = r1 then (if r1 = 0 then gd 0 1 ((if (lg_cmp (o12 (0 : Int32).toNatClampNeg) r13.toInt64) = 0 then some (o3, o4, z.cp1_now_today, z.cp1_now_products, z.cp1_now_itemCount, z.cp1_now_items, o7, z.cp1_now_terms, z.cp1_now_shelves_lanes, z.cp1_now_shelves_positions, z.cp1_now_shelves_room, z.cp1_now_shelves_gap, z.cp1_now_shelves_places, z.cp1_now_shelves_picked, o8, o9, o10, z.cp1_now_shelves_byDistance, z.cp1_now_lots_count, z.cp1_now_lots_product, z.cp1_now_lots_last, z.cp1_now_lots_cost, z.cp1_now_lots_state, z.cp1_now_lots_byLast, z.cp1_now_orders_count, z.cp1_now_orders_gifts, z.cp1_now_orders_customer, z.cp1_now_orders_product, z.cp1_now_orders_open, z.cp1_now_orders_due, z.cp1_now_orders_life, z.cp1_now_orders_byDue, o11, z.cp1_now_orders_stamps, o5, o6, z.cp1_plan_terms, z.cp1_plan_low, z.cp1_plan_high, z.cp1_plan_bottom, z.cp1_plan_cost, z.cp1_plan_act, z.cp1_picker_deepest, z.cp1_picker_shallowest, z.cp1_picker_widest, z.cp1_picker_least, z.cp1_picker_next, z.cp1_rest, z.cp1_packed, o15, o16, o17, o18, o19, o20, z.cp2_near, z.cp2_isDone, z.cp2_lane, z.cp2_position, z.cp2_least, z.cp2_boxesOf, z.cp2_staying, z.cp2_planned, z.cp2_scale, o12)
  else none))
  else some (o3, o4, z.cp1_now_today, z.cp1_now_products, z.cp1_now_itemCount, z.cp1_now_items, o7, z.cp1_now_terms, z.cp1_now_shelves_lanes, z.cp1_now_shelves_positions, z.cp1_now_shelves_room, z.cp1_now_shelves_gap, z.cp1_now_shelves_places, z.cp1_now_shelves_picked, o8, o9, o10, z.cp1_now_shelves_byDistance, z.cp1_now_lots_count, z.cp1_now_lots_product, z.cp1_now_lots_last, z.cp1_now_lots_cost, z.cp1_now_lots_state, z.cp1_now_lots_byLast, z.cp1_now_orders_count, z.cp1_now_orders_gifts, z.cp1_now_orders_customer, z.cp1_now_orders_product, z.cp1_now_orders_open, z.cp1_now_orders_due, z.cp1_now_orders_life, z.cp1_now_orders_byDue, o11, z.cp1_now_orders_stamps, o5, o6, z.cp1_plan_terms, z.cp1_plan_low, z.cp1_plan_high, z.cp1_plan_bottom, z.cp1_plan_cost, z.cp1_plan_act, z.cp1_picker_deepest, z.cp1_picker_shallowest, z.cp1_picker_widest, z.cp1_picker_least, z.cp1_picker_next, z.cp1_rest, z.cp1_packed, o15, o16, o17, o18, o19, o20, z.cp2_near, z.cp2_isDone, z.cp2_lane, z.cp2_position, z.cp2_least, z.cp2_boxesOf, z.cp2_staying, z.cp2_planned, z.cp2_scale, o12))
  else none)))))))
def f_c23 (v1 v2 v3 v4 v5 : Int32) (z : LwS) : Option LwS :=
  bnd2 (f_W_orderAt v1 v2 z.cp1_now_orders_count z.cp1_now_orders_customer z.cp1_now_orders_product z.cp1_now_orders_open z.cp1_now_orders_due z.cp1_now_orders_life z.cp1_now_orders_had z.cp3) (fun r1 o3 =>
  (bnd2 (f_Y8_orderAt v1 v2 z.cp2_raised z.cp2_w) (fun r4 o6 =>
  (bnd1 (f_Y8_thrown o6) (fun r7 =>
  ((if r7 = r1 then (if r1 = 0 then gd 0 1 ((if (lg_cmp (o3 (0 : Int32).toNatClampNeg) r4.toInt64) = 0 then some (z.cp1_acts, z.cp1_nextSlot, z.cp1_now_today, z.cp1_now_products, z.cp1_now_itemCount, z.cp1_now_items, z.cp1_now_books, z.cp1_now_terms, z.cp1_now_shelves_lanes, z.cp1_now_shelves_positions, z.cp1_now_shelves_room, z.cp1_now_shelves_gap, z.cp1_now_shelves_places, z.cp1_now_shelves_picked, z.cp1_now_shelves_lot, z.cp1_now_shelves_pieces, z.cp1_now_shelves_mark, z.cp1_now_shelves_byDistance, z.cp1_now_lots_count, z.cp1_now_lots_product, z.cp1_now_lots_last, z.cp1_now_lots_cost, z.cp1_now_lots_state, z.cp1_now_lots_byLast, z.cp1_now_orders_count, z.cp1_now_orders_gifts, z.cp1_now_orders_customer, z.cp1_now_orders_product, z.cp1_now_orders_open, z.cp1_now_orders_due, z.cp1_now_orders_life, z.cp1_now_orders_byDue, z.cp1_now_orders_had, z.cp1_now_orders_stamps, z.cp1_hk, z.cp1_st, z.cp1_plan_terms, z.cp1_plan_low, z.cp1_plan_high, z.cp1_plan_bottom, z.cp1_plan_cost, z.cp1_plan_act, z.cp1_picker_deepest, z.cp1_picker_shallowest, z.cp1_picker_widest, z.cp1_picker_least, z.cp1_picker_next, z.cp1_rest, z.cp1_packed, o6, z.cp2_undos, z.cp2_eldest, z.cp2_w, z.cp2_kept, z.cp2_copy, z.cp2_near, z.cp2_isDone, z.cp2_lane, z.cp2_position, z.cp2_least, z.cp2_boxesOf, z.cp2_staying, z.cp2_planned, z.cp2_scale, o3)
  else none))
  else some (z.cp1_acts, z.cp1_nextSlot, z.cp1_now_today, z.cp1_now_products, z.cp1_now_itemCount, z.cp1_now_items, z.cp1_now_books, z.cp1_now_terms, z.cp1_now_shelves_lanes, z.cp1_now_shelves_positions, z.cp1_now_shelves_room, z.cp1_now_shelves_gap, z.cp1_now_shelves_places, z.cp1_now_shelves_picked, z.cp1_now_shelves_lot, z.cp1_now_shelves_pieces, z.cp1_now_shelves_mark, z.cp1_now_shelves_byDistance, z.cp1_now_lots_count, z.cp1_now_lots_product, z.cp1_now_lots_last, z.cp1_now_lots_cost, z.cp1_now_lots_state, z.cp1_now_lots_byLast, z.cp1_now_orders_count, z.cp1_now_orders_gifts, z.cp1_now_orders_customer, z.cp1_now_orders_product, z.cp1_now_orders_open, z.cp1_now_orders_due, z.cp1_now_orders_life, z.cp1_now_orders_byDue, z.cp1_now_orders_had, z.cp1_now_orders_stamps, z.cp1_hk, z.cp1_st, z.cp1_plan_terms, z.cp1_plan_low, z.cp1_plan_high, z.cp1_plan_bottom, z.cp1_plan_cost, z.cp1_plan_act, z.cp1_picker_deepest, z.cp1_picker_shallowest, z.cp1_picker_widest, z.cp1_picker_least, z.cp1_picker_next, z.cp1_rest, z.cp1_packed, o6, z.cp2_undos, z.cp2_eldest, z.cp2_w, z.cp2_kept, z.cp2_copy, z.cp2_near, z.cp2_isDone, z.cp2_lane, z.cp2_position, z.cp2_least, z.cp2_boxesOf, z.cp2_staying, z.cp2_planned, z.cp2_scale, o3))
  else none)))))))
def f_c24 (v1 v2 v3 v4 v5 : Int32) (z : LwS) : Option LwS :=
  bnd2 (f_W_lotsOf v1 z.cp1_now_lots_count z.cp1_now_orders_count z.cp1_now_orders_had z.cp3) (fun r1 o3 =>
  (bnd2 (f_Y8_lotsOf v1 z.cp2_raised z.cp2_w) (fun r4 o6 =>
  (bnd1 (f_Y8_thrown o6) (fun r7 =>
  ((if r7 = r1 then (if r1 = 0 then gd 0 1 ((if (lg_cmp (o3 (0 : Int32).toNatClampNeg) r4.toInt64) = 0 then some (z.cp1_acts, z.cp1_nextSlot, z.cp1_now_today, z.cp1_now_products, z.cp1_now_itemCount, z.cp1_now_items, z.cp1_now_books, z.cp1_now_terms, z.cp1_now_shelves_lanes, z.cp1_now_shelves_positions, z.cp1_now_shelves_room, z.cp1_now_shelves_gap, z.cp1_now_shelves_places, z.cp1_now_shelves_picked, z.cp1_now_shelves_lot, z.cp1_now_shelves_pieces, z.cp1_now_shelves_mark, z.cp1_now_shelves_byDistance, z.cp1_now_lots_count, z.cp1_now_lots_product, z.cp1_now_lots_last, z.cp1_now_lots_cost, z.cp1_now_lots_state, z.cp1_now_lots_byLast, z.cp1_now_orders_count, z.cp1_now_orders_gifts, z.cp1_now_orders_customer, z.cp1_now_orders_product, z.cp1_now_orders_open, z.cp1_now_orders_due, z.cp1_now_orders_life, z.cp1_now_orders_byDue, z.cp1_now_orders_had, z.cp1_now_orders_stamps, z.cp1_hk, z.cp1_st, z.cp1_plan_terms, z.cp1_plan_low, z.cp1_plan_high, z.cp1_plan_bottom, z.cp1_plan_cost, z.cp1_plan_act, z.cp1_picker_deepest, z.cp1_picker_shallowest, z.cp1_picker_widest, z.cp1_picker_least, z.cp1_picker_next, z.cp1_rest, z.cp1_packed, o6, z.cp2_undos, z.cp2_eldest, z.cp2_w, z.cp2_kept, z.cp2_copy, z.cp2_near, z.cp2_isDone, z.cp2_lane, z.cp2_position, z.cp2_least, z.cp2_boxesOf, z.cp2_staying, z.cp2_planned, z.cp2_scale, o3)
  else none))
  else some (z.cp1_acts, z.cp1_nextSlot, z.cp1_now_today, z.cp1_now_products, z.cp1_now_itemCount, z.cp1_now_items, z.cp1_now_books, z.cp1_now_terms, z.cp1_now_shelves_lanes, z.cp1_now_shelves_positions, z.cp1_now_shelves_room, z.cp1_now_shelves_gap, z.cp1_now_shelves_places, z.cp1_now_shelves_picked, z.cp1_now_shelves_lot, z.cp1_now_shelves_pieces, z.cp1_now_shelves_mark, z.cp1_now_shelves_byDistance, z.cp1_now_lots_count, z.cp1_now_lots_product, z.cp1_now_lots_last, z.cp1_now_lots_cost, z.cp1_now_lots_state, z.cp1_now_lots_byLast, z.cp1_now_orders_count, z.cp1_now_orders_gifts, z.cp1_now_orders_customer, z.cp1_now_orders_product, z.cp1_now_orders_open, z.cp1_now_orders_due, z.cp1_now_orders_life, z.cp1_now_orders_byDue, z.cp1_now_orders_had, z.cp1_now_orders_stamps, z.cp1_hk, z.cp1_st, z.cp1_plan_terms, z.cp1_plan_low, z.cp1_plan_high, z.cp1_plan_bottom, z.cp1_plan_cost, z.cp1_plan_act, z.cp1_picker_deepest, z.cp1_picker_shallowest, z.cp1_picker_widest, z.cp1_picker_least, z.cp1_picker_next, z.cp1_rest, z.cp1_packed, o6, z.cp2_undos, z.cp2_eldest, z.cp2_w, z.cp2_kept, z.cp2_copy, z.cp2_near, z.cp2_isDone, z.cp2_lane, z.cp2_position, z.cp2_least, z.cp2_boxesOf, z.cp2_staying, z.cp2_planned, z.cp2_scale, o3))
  else none)))))))
def f_c25 (v1 v2 v3 v4 v5 : Int32) (z : LwS) : Option LwS :=
  bnd1 (f_X7_orderCount z.cp1_now_orders_count) (fun r1 =>
  (bnd2 (f_Y8_orderCount z.cp2_raised z.cp2_w) (fun r3 o5 =>
  ((if r1 = r3 then some (z.cp1_acts, z.cp1_nextSlot, z.cp1_now_today, z.cp1_now_products, z.cp1_now_itemCount, z.cp1_now_items, z.cp1_now_books, z.cp1_now_terms, z.cp1_now_shelves_lanes, z.cp1_now_shelves_positions, z.cp1_now_shelves_room, z.cp1_now_shelves_gap, z.cp1_now_shelves_places, z.cp1_now_shelves_picked, z.cp1_now_shelves_lot, z.cp1_now_shelves_pieces, z.cp1_now_shelves_mark, z.cp1_now_shelves_byDistance, z.cp1_now_lots_count, z.cp1_now_lots_product, z.cp1_now_lots_last, z.cp1_now_lots_cost, z.cp1_now_lots_state, z.cp1_now_lots_byLast, z.cp1_now_orders_count, z.cp1_now_orders_gifts, z.cp1_now_orders_customer, z.cp1_now_orders_product, z.cp1_now_orders_open, z.cp1_now_orders_due, z.cp1_now_orders_life, z.cp1_now_orders_byDue, z.cp1_now_orders_had, z.cp1_now_orders_stamps, z.cp1_hk, z.cp1_st, z.cp1_plan_terms, z.cp1_plan_low, z.cp1_plan_high, z.cp1_plan_bottom, z.cp1_plan_cost, z.cp1_plan_act, z.cp1_picker_deepest, z.cp1_picker_shallowest, z.cp1_picker_widest, z.cp1_picker_least, z.cp1_picker_next, z.cp1_rest, z.cp1_packed, o5, z.cp2_undos, z.cp2_eldest, z.cp2_w, z.cp2_kept, z.cp2_copy, z.cp2_near, z.cp2_isDone, z.cp2_lane, z.cp2_position, z.cp2_least, z.cp2_boxesOf, z.cp2_staying, z.cp2_planned, z.cp2_scale, z.cp3)
  else none)))))
def f_c26 (v1 v2 v3 v4 v5 : Int32) (z : LwS) : Option LwS :=
  bnd15 (f_X7_wave z.cp1_acts z.cp1_nextSlot z.cp1_hk z.cp1_st z.cp1_now_today z.cp1_now_products z.cp1_now_itemCount z.cp1_now_items z.cp1_now_books z.cp1_now_terms z.cp1_now_shelves_lanes z.cp1_now_shelves_positions z.cp1_now_shelves_room z.cp1_now_shelves_gap z.cp1_now_shelves_places z.cp1_now_shelves_picked z.cp1_now_shelves_lot z.cp1_now_shelves_pieces z.cp1_now_shelves_mark z.cp1_now_shelves_byDistance z.cp1_now_lots_count z.cp1_now_lots_product z.cp1_now_lots_last z.cp1_now_lots_cost z.cp1_now_lots_state z.cp1_now_lots_byLast z.cp1_now_orders_count z.cp1_now_orders_gifts z.cp1_now_orders_customer z.cp1_now_orders_product z.cp1_now_orders_open z.cp1_now_orders_due z.cp1_now_orders_life z.cp1_now_orders_byDue z.cp1_now_orders_had z.cp1_now_orders_stamps z.cp1_rest) (fun r1 o3 o4 o5 o6 o7 o8 o9 o10 o11 o12 o13 o14 o15 o16 =>
  (bnd7 (f_Y8_wave z.cp2_raised z.cp2_undos z.cp2_eldest z.cp2_w z.cp2_kept z.cp2_near z.cp2_isDone) (fun r17 o19 o20 o21 o22 o23 o24 =>
  ((if r1 = r17 then some (o3, o4, z.cp1_now_today, z.cp1_now_products, z.cp1_now_itemCount, z.cp1_now_items, o7, z.cp1_now_terms, z.cp1_now_shelves_lanes, z.cp1_now_shelves_positions, z.cp1_now_shelves_room, z.cp1_now_shelves_gap, z.cp1_now_shelves_places, o8, o9, o10, o11, z.cp1_now_shelves_byDistance, z.cp1_now_lots_count, z.cp1_now_lots_product, z.cp1_now_lots_last, z.cp1_now_lots_cost, z.cp1_now_lots_state, z.cp1_now_lots_byLast, z.cp1_now_orders_count, o12, z.cp1_now_orders_customer, z.cp1_now_orders_product, o13, z.cp1_now_orders_due, z.cp1_now_orders_life, z.cp1_now_orders_byDue, o14, o15, o5, o6, z.cp1_plan_terms, z.cp1_plan_low, z.cp1_plan_high, z.cp1_plan_bottom, z.cp1_plan_cost, z.cp1_plan_act, z.cp1_picker_deepest, z.cp1_picker_shallowest, z.cp1_picker_widest, z.cp1_picker_least, z.cp1_picker_next, o16, z.cp1_packed, o19, o20, o21, o22, o23, z.cp2_copy, z.cp2_near, o24, z.cp2_lane, z.cp2_position, z.cp2_least, z.cp2_boxesOf, z.cp2_staying, z.cp2_planned, z.cp2_scale, z.cp3)
  else none)))))
def f_c27 (v1 v2 v3 v4 v5 : Int32) (z : LwS) : Option LwS :=
  bnd11 (f_W_unfilled v1 z.cp1_now_products z.cp1_now_shelves_places z.cp1_now_shelves_picked z.cp1_now_shelves_lot z.cp1_now_shelves_pieces z.cp1_now_shelves_mark z.cp1_now_shelves_byDistance z.cp1_now_lots_count z.cp1_now_lots_product z.cp1_now_lots_last z.cp1_now_lots_state z.cp1_now_lots_byLast z.cp1_now_orders_count z.cp1_now_orders_gifts z.cp1_now_orders_product z.cp1_now_orders_open z.cp1_now_orders_due z.cp1_now_orders_life z.cp1_now_orders_byDue z.cp1_now_orders_had z.cp1_now_orders_stamps z.cp1_rest z.cp3) (fun r1 o3 o4 o5 o6 o7 o8 o9 o10 o11 o12 =>
  (bnd5 (f_Y8_unfilled v1 z.cp2_raised z.cp2_w z.cp2_copy z.cp2_near z.cp2_isDone) (fun r13 o15 o16 o17 o18 =>
  (bnd1 (f_Y8_thrown o15) (fun r19 =>
  ((if r19 = r1 then (if r1 = 0 then gd 0 1 ((if (lg_cmp (o12 (0 : Int32).toNatClampNeg) r13.toInt64) = 0 then some (z.cp1_acts, z.cp1_nextSlot, z.cp1_now_today, z.cp1_now_products, z.cp1_now_itemCount, z.cp1_now_items, z.cp1_now_books, z.cp1_now_terms, z.cp1_now_shelves_lanes, z.cp1_now_shelves_positions, z.cp1_now_shelves_room, z.cp1_now_shelves_gap, z.cp1_now_shelves_places, o3, o4, o5, o6, z.cp1_now_shelves_byDistance, z.cp1_now_lots_count, z.cp1_now_lots_product, z.cp1_now_lots_last, z.cp1_now_lots_cost, z.cp1_now_lots_state, z.cp1_now_lots_byLast, z.cp1_now_orders_count, o7, z.cp1_now_orders_customer, z.cp1_now_orders_product, o8, z.cp1_now_orders_due, z.cp1_now_orders_life, z.cp1_now_orders_byDue, o9, o10, z.cp1_hk, z.cp1_st, z.cp1_plan_terms, z.cp1_plan_low, z.cp1_plan_high, z.cp1_plan_bottom, z.cp1_plan_cost, z.cp1_plan_act, z.cp1_picker_deepest, z.cp1_picker_shallowest, z.cp1_picker_widest, z.cp1_picker_least, z.cp1_picker_next, o11, z.cp1_packed, o15, z.cp2_undos, z.cp2_eldest, o16, z.cp2_kept, o17, z.cp2_near, o18, z.cp2_lane, z.cp2_position, z.cp2_least, z.cp2_boxesOf, z.cp2_staying, z.cp2_planned, z.cp2_scale, o12)
  else none))
  else some (z.cp1_acts, z.cp1_nextSlot, z.cp1_now_today, z.cp1_now_products, z.cp1_now_itemCount, z.cp1_now_items, z.cp1_now_books, z.cp1_now_terms, z.cp1_now_shelves_lanes, z.cp1_now_shelves_positions, z.cp1_now_shelves_room, z.cp1_now_shelves_gap, z.cp1_now_shelves_places, o3, o4, o5, o6, z.cp1_now_shelves_byDistance, z.cp1_now_lots_count, z.cp1_now_lots_product, z.cp1_now_lots_last, z.cp1_now_lots_cost, z.cp1_now_lots_state, z.cp1_now_lots_byLast, z.cp1_now_orders_count, o7, z.cp1_now_orders_customer, z.cp1_now_orders_product, o8, z.cp1_now_orders_due, z.cp1_now_orders_life, z.cp1_now_orders_byDue, o9, o10, z.cp1_hk, z.cp1_st, z.cp1_plan_terms, z.cp1_plan_low, z.cp1_plan_high, z.cp1_plan_bottom, z.cp1_plan_cost, z.cp1_plan_act, z.cp1_picker_deepest, z.cp1_picker_shallowest, z.cp1_picker_widest, z.cp1_picker_least, z.cp1_picker_next, o11, z.cp1_packed, o15, z.cp2_undos, z.cp2_eldest, o16, z.cp2_kept, o17, z.cp2_near, o18, z.cp2_lane, z.cp2_position, z.cp2_least, z.cp2_boxesOf, z.cp2_staying, z.cp2_planned, z.cp2_scale, o12))
  else none)))))))
def f_c28 (v1 v2 v3 v4 v5 : Int32) (z : LwS) : Option LwS :=
  bnd11 (f_W_proofDay v1 z.cp1_now_products z.cp1_now_shelves_places z.cp1_now_shelves_picked z.cp1_now_shelves_lot z.cp1_now_shelves_pieces z.cp1_now_shelves_mark z.cp1_now_shelves_byDistance z.cp1_now_lots_count z.cp1_now_lots_product z.cp1_now_lots_last z.cp1_now_lots_state z.cp1_now_lots_byLast z.cp1_now_orders_count z.cp1_now_orders_gifts z.cp1_now_orders_product z.cp1_now_orders_open z.cp1_now_orders_due z.cp1_now_orders_life z.cp1_now_orders_byDue z.cp1_now_orders_had z.cp1_now_orders_stamps z.cp1_rest z.cp3) (fun r1 o3 o4 o5 o6 o7 o8 o9 o10 o11 o12 =>
  (bnd5 (f_Y8_proofDay v1 z.cp2_raised z.cp2_w z.cp2_copy z.cp2_near z.cp2_isDone) (fun r13 o15 o16 o17 o18 =>
  (bnd1 (f_Y8_thrown o15) (fun r19 =>
  ((if r19 = r1 then (if r1 = 0 then gd 0 1 ((if (lg_cmp (o12 (0 : Int32).toNatClampNeg) r13.toInt64) = 0 then some (z.cp1_acts, z.cp1_nextSlot, z.cp1_now_today, z.cp1_now_products, z.cp1_now_itemCount, z.cp1_now_items, z.cp1_now_books, z.cp1_now_terms, z.cp1_now_shelves_lanes, z.cp1_now_shelves_positions, z.cp1_now_shelves_room, z.cp1_now_shelves_gap, z.cp1_now_shelves_places, o3, o4, o5, o6, z.cp1_now_shelves_byDistance, z.cp1_now_lots_count, z.cp1_now_lots_product, z.cp1_now_lots_last, z.cp1_now_lots_cost, z.cp1_now_lots_state, z.cp1_now_lots_byLast, z.cp1_now_orders_count, o7, z.cp1_now_orders_customer, z.cp1_now_orders_product, o8, z.cp1_now_orders_due, z.cp1_now_orders_life, z.cp1_now_orders_byDue, o9, o10, z.cp1_hk, z.cp1_st, z.cp1_plan_terms, z.cp1_plan_low, z.cp1_plan_high, z.cp1_plan_bottom, z.cp1_plan_cost, z.cp1_plan_act, z.cp1_picker_deepest, z.cp1_picker_shallowest, z.cp1_picker_widest, z.cp1_picker_least, z.cp1_picker_next, o11, z.cp1_packed, o15, z.cp2_undos, z.cp2_eldest, o16, z.cp2_kept, o17, z.cp2_near, o18, z.cp2_lane, z.cp2_position, z.cp2_least, z.cp2_boxesOf, z.cp2_staying, z.cp2_planned, z.cp2_scale, o12)
  else none))
  else some (z.cp1_acts, z.cp1_nextSlot, z.cp1_now_today, z.cp1_now_products, z.cp1_now_itemCount, z.cp1_now_items, z.cp1_now_books, z.cp1_now_terms, z.cp1_now_shelves_lanes, z.cp1_now_shelves_positions, z.cp1_now_shelves_room, z.cp1_now_shelves_gap, z.cp1_now_shelves_places, o3, o4, o5, o6, z.cp1_now_shelves_byDistance, z.cp1_now_lots_count, z.cp1_now_lots_product, z.cp1_now_lots_last, z.cp1_now_lots_cost, z.cp1_now_lots_state, z.cp1_now_lots_byLast, z.cp1_now_orders_count, o7, z.cp1_now_orders_customer, z.cp1_now_orders_product, o8, z.cp1_now_orders_due, z.cp1_now_orders_life, z.cp1_now_orders_byDue, o9, o10, z.cp1_hk, z.cp1_st, z.cp1_plan_terms, z.cp1_plan_low, z.cp1_plan_high, z.cp1_plan_bottom, z.cp1_plan_cost, z.cp1_plan_act, z.cp1_picker_deepest, z.cp1_picker_shallowest, z.cp1_picker_widest, z.cp1_picker_least, z.cp1_picker_next, o11, z.cp1_packed, o15, z.cp2_undos, z.cp2_eldest, o16, z.cp2_kept, o17, z.cp2_near, o18, z.cp2_lane, z.cp2_position, z.cp2_least, z.cp2_boxesOf, z.cp2_staying, z.cp2_planned, z.cp2_scale, o12))
  else none)))))))
def f_c29 (v1 v2 v3 v4 v5 : Int32) (z : LwS) : Option LwS :=
  bnd3 (f_W_difference v1 v2 z.cp1_now_products z.cp1_now_shelves_places z.cp1_now_shelves_lot z.cp1_now_shelves_pieces z.cp1_now_lots_count z.cp1_now_lots_product z.cp1_now_lots_last z.cp1_now_lots_state z.cp1_now_orders_count z.cp1_now_orders_product z.cp1_now_orders_open z.cp1_now_orders_due z.cp1_now_orders_life z.cp1_rest z.cp3) (fun r1 o3 o4 =>
  (bnd2 (f_Y8_difference v1 v2 z.cp2_raised z.cp2_w) (fun r5 o7 =>
  (bnd1 (f_Y8_thrown o7) (fun r8 =>
  ((if r8 = r1 then (if r1 = 0 then gd 0 1 ((if (lg_cmp (o4 (0 : Int32).toNatClampNeg) r5.toInt64) = 0 then some (z.cp1_acts, z.cp1_nextSlot, z.cp1_now_today, z.cp1_now_products, z.cp1_now_itemCount, z.cp1_now_items, z.cp1_now_books, z.cp1_now_terms, z.cp1_now_shelves_lanes, z.cp1_now_shelves_positions, z.cp1_now_shelves_room, z.cp1_now_shelves_gap, z.cp1_now_shelves_places, z.cp1_now_shelves_picked, z.cp1_now_shelves_lot, z.cp1_now_shelves_pieces, z.cp1_now_shelves_mark, z.cp1_now_shelves_byDistance, z.cp1_now_lots_count, z.cp1_now_lots_product, z.cp1_now_lots_last, z.cp1_now_lots_cost, z.cp1_now_lots_state, z.cp1_now_lots_byLast, z.cp1_now_orders_count, z.cp1_now_orders_gifts, z.cp1_now_orders_customer, z.cp1_now_orders_product, z.cp1_now_orders_open, z.cp1_now_orders_due, z.cp1_now_orders_life, z.cp1_now_orders_byDue, z.cp1_now_orders_had, z.cp1_now_orders_stamps, z.cp1_hk, z.cp1_st, z.cp1_plan_terms, z.cp1_plan_low, z.cp1_plan_high, z.cp1_plan_bottom, z.cp1_plan_cost, z.cp1_plan_act, z.cp1_picker_deepest, z.cp1_picker_shallowest, z.cp1_picker_widest, z.cp1_picker_least, z.cp1_picker_next, o3, z.cp1_packed, o7, z.cp2_undos, z.cp2_eldest, z.cp2_w, z.cp2_kept, z.cp2_copy, z.cp2_near, z.cp2_isDone, z.cp2_lane, z.cp2_position, z.cp2_least, z.cp2_boxesOf, z.cp2_staying, z.cp2_planned, z.cp2_scale, o4)
  else none))
  else some (z.cp1_acts, z.cp1_nextSlot, z.cp1_now_today, z.cp1_now_products, z.cp1_now_itemCount, z.cp1_now_items, z.cp1_now_books, z.cp1_now_terms, z.cp1_now_shelves_lanes, z.cp1_now_shelves_positions, z.cp1_now_shelves_room, z.cp1_now_shelves_gap, z.cp1_now_shelves_places, z.cp1_now_shelves_picked, z.cp1_now_shelves_lot, z.cp1_now_shelves_pieces, z.cp1_now_shelves_mark, z.cp1_now_shelves_byDistance, z.cp1_now_lots_count, z.cp1_now_lots_product, z.cp1_now_lots_last, z.cp1_now_lots_cost, z.cp1_now_lots_state, z.cp1_now_lots_byLast, z.cp1_now_orders_count, z.cp1_now_orders_gifts, z.cp1_now_orders_customer, z.cp1_now_orders_product, z.cp1_now_orders_open, z.cp1_now_orders_due, z.cp1_now_orders_life, z.cp1_now_orders_byDue, z.cp1_now_orders_had, z.cp1_now_orders_stamps, z.cp1_hk, z.cp1_st, z.cp1_plan_terms, z.cp1_plan_low, z.cp1_plan_high, z.cp1_plan_bottom, z.cp1_plan_cost, z.cp1_plan_act, z.cp1_picker_deepest, z.cp1_picker_shallowest, z.cp1_picker_widest, z.cp1_picker_least, z.cp1_picker_next, o3, z.cp1_packed, o7, z.cp2_undos, z.cp2_eldest, z.cp2_w, z.cp2_kept, z.cp2_copy, z.cp2_near, z.cp2_isDone, z.cp2_lane, z.cp2_position, z.cp2_least, z.cp2_boxesOf, z.cp2_staying, z.cp2_planned, z.cp2_scale, o4))
  else none)))))))
def f_c30 (v1 v2 v3 v4 v5 : Int32) (z : LwS) : Option LwS :=
  bnd1 (f_X7_pickCount z.cp1_now_shelves_picked) (fun r1 =>
  (bnd2 (f_Y8_pickCount z.cp2_raised z.cp2_w) (fun r3 o5 =>
  ((if r1 = r3 then some (z.cp1_acts, z.cp1_nextSlot, z.cp1_now_today, z.cp1_now_products, z.cp1_now_itemCount, z.cp1_now_items, z.cp1_now_books, z.cp1_now_terms, z.cp1_now_shelves_lanes, z.cp1_now_shelves_positions, z.cp1_now_shelves_room, z.cp1_now_shelves_gap, z.cp1_now_shelves_places, z.cp1_now_shelves_picked, z.cp1_now_shelves_lot, z.cp1_now_shelves_pieces, z.cp1_now_shelves_mark, z.cp1_now_shelves_byDistance, z.cp1_now_lots_count, z.cp1_now_lots_product, z.cp1_now_lots_last, z.cp1_now_lots_cost, z.cp1_now_lots_state, z.cp1_now_lots_byLast, z.cp1_now_orders_count, z.cp1_now_orders_gifts, z.cp1_now_orders_customer, z.cp1_now_orders_product, z.cp1_now_orders_open, z.cp1_now_orders_due, z.cp1_now_orders_life, z.cp1_now_orders_byDue, z.cp1_now_orders_had, z.cp1_now_orders_stamps, z.cp1_hk, z.cp1_st, z.cp1_plan_terms, z.cp1_plan_low, z.cp1_plan_high, z.cp1_plan_bottom, z.cp1_plan_cost, z.cp1_plan_act, z.cp1_picker_deepest, z.cp1_picker_shallowest, z.cp1_picker_widest, z.cp1_picker_least, z.cp1_picker_next, z.cp1_rest, z.cp1_packed, o5, z.cp2_undos, z.cp2_eldest, z.cp2_w, z.cp2_kept, z.cp2_copy, z.cp2_near, z.cp2_isDone, z.cp2_lane, z.cp2_position, z.cp2_least, z.cp2_boxesOf, z.cp2_staying, z.cp2_planned, z.cp2_scale, z.cp3)
  else none)))))
def f_c31 (v1 v2 v3 v4 v5 : Int32) (z : LwS) : Option LwS :=
  bnd7 (f_W_pickLength v1 z.cp1_now_shelves_lanes z.cp1_now_shelves_positions z.cp1_now_shelves_gap z.cp1_now_shelves_picked z.cp1_picker_deepest z.cp1_picker_shallowest z.cp1_picker_widest z.cp1_picker_least z.cp1_picker_next z.cp3) (fun r1 o3 o4 o5 o6 o7 o8 =>
  (bnd5 (f_Y8_pickLength v1 z.cp2_raised z.cp2_w z.cp2_lane z.cp2_position z.cp2_least) (fun r9 o11 o12 o13 o14 =>
  (bnd1 (f_Y8_thrown o11) (fun r15 =>
  ((if r15 = r1 then (if r1 = 0 then gd 0 1 ((if (lg_cmp (o8 (0 : Int32).toNatClampNeg) r9.toInt64) = 0 then some (z.cp1_acts, z.cp1_nextSlot, z.cp1_now_today, z.cp1_now_products, z.cp1_now_itemCount, z.cp1_now_items, z.cp1_now_books, z.cp1_now_terms, z.cp1_now_shelves_lanes, z.cp1_now_shelves_positions, z.cp1_now_shelves_room, z.cp1_now_shelves_gap, z.cp1_now_shelves_places, z.cp1_now_shelves_picked, z.cp1_now_shelves_lot, z.cp1_now_shelves_pieces, z.cp1_now_shelves_mark, z.cp1_now_shelves_byDistance, z.cp1_now_lots_count, z.cp1_now_lots_product, z.cp1_now_lots_last, z.cp1_now_lots_cost, z.cp1_now_lots_state, z.cp1_now_lots_byLast, z.cp1_now_orders_count, z.cp1_now_orders_gifts, z.cp1_now_orders_customer, z.cp1_now_orders_product, z.cp1_now_orders_open, z.cp1_now_orders_due, z.cp1_now_orders_life, z.cp1_now_orders_byDue, z.cp1_now_orders_had, z.cp1_now_orders_stamps, z.cp1_hk, z.cp1_st, z.cp1_plan_terms, z.cp1_plan_low, z.cp1_plan_high, z.cp1_plan_bottom, z.cp1_plan_cost, z.cp1_plan_act, o3, o4, o5, o6, o7, z.cp1_rest, z.cp1_packed, o11, z.cp2_undos, z.cp2_eldest, z.cp2_w, z.cp2_kept, z.cp2_copy, z.cp2_near, z.cp2_isDone, o12, o13, o14, z.cp2_boxesOf, z.cp2_staying, z.cp2_planned, z.cp2_scale, o8)
  else none))
  else some (z.cp1_acts, z.cp1_nextSlot, z.cp1_now_today, z.cp1_now_products, z.cp1_now_itemCount, z.cp1_now_items, z.cp1_now_books, z.cp1_now_terms, z.cp1_now_shelves_lanes, z.cp1_now_shelves_positions, z.cp1_now_shelves_room, z.cp1_now_shelves_gap, z.cp1_now_shelves_places, z.cp1_now_shelves_picked, z.cp1_now_shelves_lot, z.cp1_now_shelves_pieces, z.cp1_now_shelves_mark, z.cp1_now_shelves_byDistance, z.cp1_now_lots_count, z.cp1_now_lots_product, z.cp1_now_lots_last, z.cp1_now_lots_cost, z.cp1_now_lots_state, z.cp1_now_lots_byLast, z.cp1_now_orders_count, z.cp1_now_orders_gifts, z.cp1_now_orders_customer, z.cp1_now_orders_product, z.cp1_now_orders_open, z.cp1_now_orders_due, z.cp1_now_orders_life, z.cp1_now_orders_byDue, z.cp1_now_orders_had, z.cp1_now_orders_stamps, z.cp1_hk, z.cp1_st, z.cp1_plan_terms, z.cp1_plan_low, z.cp1_plan_high, z.cp1_plan_bottom, z.cp1_plan_cost, z.cp1_plan_act, o3, o4, o5, o6, o7, z.cp1_rest, z.cp1_packed, o11, z.cp2_undos, z.cp2_eldest, z.cp2_w, z.cp2_kept, z.cp2_copy, z.cp2_near, z.cp2_isDone, o12, o13, o14, z.cp2_boxesOf, z.cp2_staying, z.cp2_planned, z.cp2_scale, o8))
  else none)))))))
def f_c32 (v1 v2 v3 v4 v5 : Int32) (z : LwS) : Option LwS :=
  bnd8 (f_W_addItem v1 z.cp1_acts z.cp1_nextSlot z.cp1_hk z.cp1_st z.cp1_now_today z.cp1_now_products z.cp1_now_itemCount z.cp1_now_items z.cp1_now_books z.cp1_now_terms z.cp1_now_shelves_lanes z.cp1_now_shelves_positions z.cp1_now_shelves_room z.cp1_now_shelves_gap z.cp1_now_shelves_places z.cp1_now_shelves_picked z.cp1_now_shelves_lot z.cp1_now_shelves_pieces z.cp1_now_shelves_mark z.cp1_now_shelves_byDistance z.cp1_now_lots_count z.cp1_now_lots_product z.cp1_now_lots_last z.cp1_now_lots_cost z.cp1_now_lots_state z.cp1_now_lots_byLast z.cp1_now_orders_count z.cp1_now_orders_gifts z.cp1_now_orders_customer z.cp1_now_orders_product z.cp1_now_orders_open z.cp1_now_orders_due z.cp1_now_orders_life z.cp1_now_orders_byDue z.cp1_now_orders_had z.cp1_now_orders_stamps z.cp3) (fun r1 o3 o4 o5 o6 o7 o8 o9 =>
  (bnd6 (f_Y8_addItem v1 z.cp2_raised z.cp2_undos z.cp2_eldest z.cp2_w z.cp2_kept) (fun r10 o12 o13 o14 o15 o16 =>
  (bnd1 (f_Y8_thrown o12) (fun r17 =>
  ((if r17 = r1 then (if r1 = 0 then gd 0 1 ((if (lg_cmp (o9 (0 : Int32).toNatClampNeg) r10.toInt64) = 0 then some (o3, o4, z.cp1_now_today, z.cp1_now_products, o7, o8, z.cp1_now_books, z.cp1_now_terms, z.cp1_now_shelves_lanes, z.cp1_now_shelves_positions, z.cp1_now_shelves_room, z.cp1_now_shelves_gap, z.cp1_now_shelves_places, z.cp1_now_shelves_picked, z.cp1_now_shelves_lot, z.cp1_now_shelves_pieces, z.cp1_now_shelves_mark, z.cp1_now_shelves_byDistance, z.cp1_now_lots_count, z.cp1_now_lots_product, z.cp1_now_lots_last, z.cp1_now_lots_cost, z.cp1_now_lots_state, z.cp1_now_lots_byLast, z.cp1_now_orders_count, z.cp1_now_orders_gifts, z.cp1_now_orders_customer, z.cp1_now_orders_product, z.cp1_now_orders_open, z.cp1_now_orders_due, z.cp1_now_orders_life, z.cp1_now_orders_byDue, z.cp1_now_orders_had, z.cp1_now_orders_stamps, o5, o6, z.cp1_plan_terms, z.cp1_plan_low, z.cp1_plan_high, z.cp1_plan_bottom, z.cp1_plan_cost, z.cp1_plan_act, z.cp1_picker_deepest, z.cp1_picker_shallowest, z.cp1_picker_widest, z.cp1_picker_least, z.cp1_picker_next, z.cp1_rest, z.cp1_packed, o12, o13, o14, o15, o16, z.cp2_copy, z.cp2_near, z.cp2_isDone, z.cp2_lane, z.cp2_position, z.cp2_least, z.cp2_boxesOf, z.cp2_staying, z.cp2_planned, z.cp2_scale, o9)
  else none))
  else some (o3, o4, z.cp1_now_today, z.cp1_now_products, o7, o8, z.cp1_now_books, z.cp1_now_terms, z.cp1_now_shelves_lanes, z.cp1_now_shelves_positions, z.cp1_now_shelves_room, z.cp1_now_shelves_gap, z.cp1_now_shelves_places, z.cp1_now_shelves_picked, z.cp1_now_shelves_lot, z.cp1_now_shelves_pieces, z.cp1_now_shelves_mark, z.cp1_now_shelves_byDistance, z.cp1_now_lots_count, z.cp1_now_lots_product, z.cp1_now_lots_last, z.cp1_now_lots_cost, z.cp1_now_lots_state, z.cp1_now_lots_byLast, z.cp1_now_orders_count, z.cp1_now_orders_gifts, z.cp1_now_orders_customer, z.cp1_now_orders_product, z.cp1_now_orders_open, z.cp1_now_orders_due, z.cp1_now_orders_life, z.cp1_now_orders_byDue, z.cp1_now_orders_had, z.cp1_now_orders_stamps, o5, o6, z.cp1_plan_terms, z.cp1_plan_low, z.cp1_plan_high, z.cp1_plan_bottom, z.cp1_plan_cost, z.cp1_plan_act, z.cp1_picker_deepest, z.cp1_picker_shallowest, z.cp1_picker_widest, z.cp1_picker_least, z.cp1_picker_next, z.cp1_rest, z.cp1_packed, o12, o13, o14, o15, o16, z.cp2_copy, z.cp2_near, z.cp2_isDone, z.cp2_lane, z.cp2_position, z.cp2_least, z.cp2_boxesOf, z.cp2_staying, z.cp2_planned, z.cp2_scale, o9))
  else none)))))))
def f_c33 (v1 v2 v3 v4 v5 : Int32) (z : LwS) : Option LwS :=
  bnd6 (f_X7_clearItems z.cp1_acts z.cp1_nextSlot z.cp1_hk z.cp1_st z.cp1_now_today z.cp1_now_products z.cp1_now_itemCount z.cp1_now_items z.cp1_now_books z.cp1_now_terms z.cp1_now_shelves_lanes z.cp1_now_shelves_positions z.cp1_now_shelves_room z.cp1_now_shelves_gap z.cp1_now_shelves_places z.cp1_now_shelves_picked z.cp1_now_shelves_lot z.cp1_now_shelves_pieces z.cp1_now_shelves_mark z.cp1_now_shelves_byDistance z.cp1_now_lots_count z.cp1_now_lots_product z.cp1_now_lots_last z.cp1_now_lots_cost z.cp1_now_lots_state z.cp1_now_lots_byLast z.cp1_now_orders_count z.cp1_now_orders_gifts z.cp1_now_orders_customer z.cp1_now_orders_product z.cp1_now_orders_open z.cp1_now_orders_due z.cp1_now_orders_life z.cp1_now_orders_byDue z.cp1_now_orders_had z.cp1_now_orders_stamps) (fun r1 o3 o4 o5 o6 o7 =>
  (bnd6 (f_Y8_clearItems z.cp2_raised z.cp2_undos z.cp2_eldest z.cp2_w z.cp2_kept) (fun r8 o10 o11 o12 o13 o14 =>
  ((if r1 = r8 then some (o3, o4, z.cp1_now_today, z.cp1_now_products, o7, z.cp1_now_items, z.cp1_now_books, z.cp1_now_terms, z.cp1_now_shelves_lanes, z.cp1_now_shelves_positions, z.cp1_now_shelves_room, z.cp1_now_shelves_gap, z.cp1_now_shelves_places, z.cp1_now_shelves_picked, z.cp1_now_shelves_lot, z.cp1_now_shelves_pieces, z.cp1_now_shelves_mark, z.cp1_now_shelves_byDistance, z.cp1_now_lots_count, z.cp1_now_lots_product, z.cp1_now_lots_last, z.cp1_now_lots_cost, z.cp1_now_lots_state, z.cp1_now_lots_byLast, z.cp1_now_orders_count, z.cp1_now_orders_gifts, z.cp1_now_orders_customer, z.cp1_now_orders_product, z.cp1_now_orders_open, z.cp1_now_orders_due, z.cp1_now_orders_life, z.cp1_now_orders_byDue, z.cp1_now_orders_had, z.cp1_now_orders_stamps, o5, o6, z.cp1_plan_terms, z.cp1_plan_low, z.cp1_plan_high, z.cp1_plan_bottom, z.cp1_plan_cost, z.cp1_plan_act, z.cp1_picker_deepest, z.cp1_picker_shallowest, z.cp1_picker_widest, z.cp1_picker_least, z.cp1_picker_next, z.cp1_rest, z.cp1_packed, o10, o11, o12, o13, o14, z.cp2_copy, z.cp2_near, z.cp2_isDone, z.cp2_lane, z.cp2_position, z.cp2_least, z.cp2_boxesOf, z.cp2_staying, z.cp2_planned, z.cp2_scale, z.cp3)
  else none)))))
def f_c34 (v1 v2 v3 v4 v5 : Int32) (z : LwS) : Option LwS :=
  bnd3 (f_W_boxes v1 z.cp1_now_itemCount z.cp1_now_items z.cp1_packed z.cp3) (fun r1 o3 o4 =>
  (bnd3 (f_Y8_boxes v1 z.cp2_raised z.cp2_w z.cp2_boxesOf) (fun r5 o7 o8 =>
  (bnd1 (f_Y8_thrown o7) (fun r9 =>
  ((if r9 = r1 then (if r1 = 0 then gd 0 1 ((if (lg_cmp (o4 (0 : Int32).toNatClampNeg) r5.toInt64) = 0 then some (z.cp1_acts, z.cp1_nextSlot, z.cp1_now_today, z.cp1_now_products, z.cp1_now_itemCount, z.cp1_now_items, z.cp1_now_books, z.cp1_now_terms, z.cp1_now_shelves_lanes, z.cp1_now_shelves_positions, z.cp1_now_shelves_room, z.cp1_now_shelves_gap, z.cp1_now_shelves_places, z.cp1_now_shelves_picked, z.cp1_now_shelves_lot, z.cp1_now_shelves_pieces, z.cp1_now_shelves_mark, z.cp1_now_shelves_byDistance, z.cp1_now_lots_count, z.cp1_now_lots_product, z.cp1_now_lots_last, z.cp1_now_lots_cost, z.cp1_now_lots_state, z.cp1_now_lots_byLast, z.cp1_now_orders_count, z.cp1_now_orders_gifts, z.cp1_now_orders_customer, z.cp1_now_orders_product, z.cp1_now_orders_open, z.cp1_now_orders_due, z.cp1_now_orders_life, z.cp1_now_orders_byDue, z.cp1_now_orders_had, z.cp1_now_orders_stamps, z.cp1_hk, z.cp1_st, z.cp1_plan_terms, z.cp1_plan_low, z.cp1_plan_high, z.cp1_plan_bottom, z.cp1_plan_cost, z.cp1_plan_act, z.cp1_picker_deepest, z.cp1_picker_shallowest, z.cp1_picker_widest, z.cp1_picker_least, z.cp1_picker_next, z.cp1_rest, o3, o7, z.cp2_undos, z.cp2_eldest, z.cp2_w, z.cp2_kept, z.cp2_copy, z.cp2_near, z.cp2_isDone, z.cp2_lane, z.cp2_position, z.cp2_least, o8, z.cp2_staying, z.cp2_planned, z.cp2_scale, o4)
  else none))
  else some (z.cp1_acts, z.cp1_nextSlot, z.cp1_now_today, z.cp1_now_products, z.cp1_now_itemCount, z.cp1_now_items, z.cp1_now_books, z.cp1_now_terms, z.cp1_now_shelves_lanes, z.cp1_now_shelves_positions, z.cp1_now_shelves_room, z.cp1_now_shelves_gap, z.cp1_now_shelves_places, z.cp1_now_shelves_picked, z.cp1_now_shelves_lot, z.cp1_now_shelves_pieces, z.cp1_now_shelves_mark, z.cp1_now_shelves_byDistance, z.cp1_now_lots_count, z.cp1_now_lots_product, z.cp1_now_lots_last, z.cp1_now_lots_cost, z.cp1_now_lots_state, z.cp1_now_lots_byLast, z.cp1_now_orders_count, z.cp1_now_orders_gifts, z.cp1_now_orders_customer, z.cp1_now_orders_product, z.cp1_now_orders_open, z.cp1_now_orders_due, z.cp1_now_orders_life, z.cp1_now_orders_byDue, z.cp1_now_orders_had, z.cp1_now_orders_stamps, z.cp1_hk, z.cp1_st, z.cp1_plan_terms, z.cp1_plan_low, z.cp1_plan_high, z.cp1_plan_bottom, z.cp1_plan_cost, z.cp1_plan_act, z.cp1_picker_deepest, z.cp1_picker_shallowest, z.cp1_picker_widest, z.cp1_picker_least, z.cp1_picker_next, z.cp1_rest, o3, o7, z.cp2_undos, z.cp2_eldest, z.cp2_w, z.cp2_kept, z.cp2_copy, z.cp2_near, z.cp2_isDone, z.cp2_lane, z.cp2_position, z.cp2_least, o8, z.cp2_staying, z.cp2_planned, z.cp2_scale, o4))
  else none)))))))
def f_c35 (v1 v2 v3 v4 v5 : Int32) (z : LwS) : Option LwS :=
  bnd2 (f_W_boxBound v1 z.cp1_now_itemCount z.cp1_now_items z.cp3) (fun r1 o3 =>
  (bnd2 (f_Y8_boxBound v1 z.cp2_raised z.cp2_w) (fun r4 o6 =>
  (bnd1 (f_Y8_thrown o6) (fun r7 =>
  ((if r7 = r1 then (if r1 = 0 then gd 0 1 ((if (lg_cmp (o3 (0 : Int32).toNatClampNeg) r4.toInt64) = 0 then some (z.cp1_acts, z.cp1_nextSlot, z.cp1_now_today, z.cp1_now_products, z.cp1_now_itemCount, z.cp1_now_items, z.cp1_now_books, z.cp1_now_terms, z.cp1_now_shelves_lanes, z.cp1_now_shelves_positions, z.cp1_now_shelves_room, z.cp1_now_shelves_gap, z.cp1_now_shelves_places, z.cp1_now_shelves_picked, z.cp1_now_shelves_lot, z.cp1_now_shelves_pieces, z.cp1_now_shelves_mark, z.cp1_now_shelves_byDistance, z.cp1_now_lots_count, z.cp1_now_lots_product, z.cp1_now_lots_last, z.cp1_now_lots_cost, z.cp1_now_lots_state, z.cp1_now_lots_byLast, z.cp1_now_orders_count, z.cp1_now_orders_gifts, z.cp1_now_orders_customer, z.cp1_now_orders_product, z.cp1_now_orders_open, z.cp1_now_orders_due, z.cp1_now_orders_life, z.cp1_now_orders_byDue, z.cp1_now_orders_had, z.cp1_now_orders_stamps, z.cp1_hk, z.cp1_st, z.cp1_plan_terms, z.cp1_plan_low, z.cp1_plan_high, z.cp1_plan_bottom, z.cp1_plan_cost, z.cp1_plan_act, z.cp1_picker_deepest, z.cp1_picker_shallowest, z.cp1_picker_widest, z.cp1_picker_least, z.cp1_picker_next, z.cp1_rest, z.cp1_packed, o6, z.cp2_undos, z.cp2_eldest, z.cp2_w, z.cp2_kept, z.cp2_copy, z.cp2_near, z.cp2_isDone, z.cp2_lane, z.cp2_position, z.cp2_least, z.cp2_boxesOf, z.cp2_staying, z.cp2_planned, z.cp2_scale, o3)
  else none))
  else some (z.cp1_acts, z.cp1_nextSlot, z.cp1_now_today, z.cp1_now_products, z.cp1_now_itemCount, z.cp1_now_items, z.cp1_now_books, z.cp1_now_terms, z.cp1_now_shelves_lanes, z.cp1_now_shelves_positions, z.cp1_now_shelves_room, z.cp1_now_shelves_gap, z.cp1_now_shelves_places, z.cp1_now_shelves_picked, z.cp1_now_shelves_lot, z.cp1_now_shelves_pieces, z.cp1_now_shelves_mark, z.cp1_now_shelves_byDistance, z.cp1_now_lots_count, z.cp1_now_lots_product, z.cp1_now_lots_last, z.cp1_now_lots_cost, z.cp1_now_lots_state, z.cp1_now_lots_byLast, z.cp1_now_orders_count, z.cp1_now_orders_gifts, z.cp1_now_orders_customer, z.cp1_now_orders_product, z.cp1_now_orders_open, z.cp1_now_orders_due, z.cp1_now_orders_life, z.cp1_now_orders_byDue, z.cp1_now_orders_had, z.cp1_now_orders_stamps, z.cp1_hk, z.cp1_st, z.cp1_plan_terms, z.cp1_plan_low, z.cp1_plan_high, z.cp1_plan_bottom, z.cp1_plan_cost, z.cp1_plan_act, z.cp1_picker_deepest, z.cp1_picker_shallowest, z.cp1_picker_widest, z.cp1_picker_least, z.cp1_picker_next, z.cp1_rest, z.cp1_packed, o6, z.cp2_undos, z.cp2_eldest, z.cp2_w, z.cp2_kept, z.cp2_copy, z.cp2_near, z.cp2_isDone, z.cp2_lane, z.cp2_position, z.cp2_least, z.cp2_boxesOf, z.cp2_staying, z.cp2_planned, z.cp2_scale, o3))
  else none)))))))
def f_c36 (v1 v2 v3 v4 v5 : Int32) (z : LwS) : Option LwS :=
  bnd7 (f_W_setWants v1 v2 v3 v4 v5 z.cp1_acts z.cp1_nextSlot z.cp1_hk z.cp1_st z.cp1_now_today z.cp1_now_products z.cp1_now_itemCount z.cp1_now_items z.cp1_now_books z.cp1_now_terms z.cp1_now_shelves_lanes z.cp1_now_shelves_positions z.cp1_now_shelves_room z.cp1_now_shelves_gap z.cp1_now_shelves_places z.cp1_now_shelves_picked z.cp1_now_shelves_lot z.cp1_now_shelves_pieces z.cp1_now_shelves_mark z.cp1_now_shelves_byDistance z.cp1_now_lots_count z.cp1_now_lots_product z.cp1_now_lots_last z.cp1_now_lots_cost z.cp1_now_lots_state z.cp1_now_lots_byLast z.cp1_now_orders_count z.cp1_now_orders_gifts z.cp1_now_orders_customer z.cp1_now_orders_product z.cp1_now_orders_open z.cp1_now_orders_due z.cp1_now_orders_life z.cp1_now_orders_byDue z.cp1_now_orders_had z.cp1_now_orders_stamps z.cp3) (fun r1 o3 o4 o5 o6 o7 o8 =>
  (bnd6 (f_Y8_setWants v1 v2 v3 v4 v5 z.cp2_raised z.cp2_undos z.cp2_eldest z.cp2_w z.cp2_kept) (fun r9 o11 o12 o13 o14 o15 =>
  (bnd1 (f_Y8_thrown o11) (fun r16 =>
  ((if r16 = r1 then (if r1 = 0 then gd 0 1 ((if (lg_cmp (o8 (0 : Int32).toNatClampNeg) r9.toInt64) = 0 then some (o3, o4, z.cp1_now_today, z.cp1_now_products, z.cp1_now_itemCount, z.cp1_now_items, z.cp1_now_books, o7, z.cp1_now_shelves_lanes, z.cp1_now_shelves_positions, z.cp1_now_shelves_room, z.cp1_now_shelves_gap, z.cp1_now_shelves_places, z.cp1_now_shelves_picked, z.cp1_now_shelves_lot, z.cp1_now_shelves_pieces, z.cp1_now_shelves_mark, z.cp1_now_shelves_byDistance, z.cp1_now_lots_count, z.cp1_now_lots_product, z.cp1_now_lots_last, z.cp1_now_lots_cost, z.cp1_now_lots_state, z.cp1_now_lots_byLast, z.cp1_now_orders_count, z.cp1_now_orders_gifts, z.cp1_now_orders_customer, z.cp1_now_orders_product, z.cp1_now_orders_open, z.cp1_now_orders_due, z.cp1_now_orders_life, z.cp1_now_orders_byDue, z.cp1_now_orders_had, z.cp1_now_orders_stamps, o5, o6, z.cp1_plan_terms, z.cp1_plan_low, z.cp1_plan_high, z.cp1_plan_bottom, z.cp1_plan_cost, z.cp1_plan_act, z.cp1_picker_deepest, z.cp1_picker_shallowest, z.cp1_picker_widest, z.cp1_picker_least, z.cp1_picker_next, z.cp1_rest, z.cp1_packed, o11, o12, o13, o14, o15, z.cp2_copy, z.cp2_near, z.cp2_isDone, z.cp2_lane, z.cp2_position, z.cp2_least, z.cp2_boxesOf, z.cp2_staying, z.cp2_planned, z.cp2_scale, o8)
  else none))
  else some (o3, o4, z.cp1_now_today, z.cp1_now_products, z.cp1_now_itemCount, z.cp1_now_items, z.cp1_now_books, o7, z.cp1_now_shelves_lanes, z.cp1_now_shelves_positions, z.cp1_now_shelves_room, z.cp1_now_shelves_gap, z.cp1_now_shelves_places, z.cp1_now_shelves_picked, z.cp1_now_shelves_lot, z.cp1_now_shelves_pieces, z.cp1_now_shelves_mark, z.cp1_now_shelves_byDistance, z.cp1_now_lots_count, z.cp1_now_lots_product, z.cp1_now_lots_last, z.cp1_now_lots_cost, z.cp1_now_lots_state, z.cp1_now_lots_byLast, z.cp1_now_orders_count, z.cp1_now_orders_gifts, z.cp1_now_orders_customer, z.cp1_now_orders_product, z.cp1_now_orders_open, z.cp1_now_orders_due, z.cp1_now_orders_life, z.cp1_now_orders_byDue, z.cp1_now_orders_had, z.cp1_now_orders_stamps, o5, o6, z.cp1_plan_terms, z.cp1_plan_low, z.cp1_plan_high, z.cp1_plan_bottom, z.cp1_plan_cost, z.cp1_plan_act, z.cp1_picker_deepest, z.cp1_picker_shallowest, z.cp1_picker_widest, z.cp1_picker_least, z.cp1_picker_next, z.cp1_rest, z.cp1_packed, o11, o12, o13, o14, o15, z.cp2_copy, z.cp2_near, z.cp2_isDone, z.cp2_lane, z.cp2_position, z.cp2_least, z.cp2_boxesOf, z.cp2_staying, z.cp2_planned, z.cp2_scale, o8))
  else none)))))))
def f_c37 (v1 v2 v3 v4 v5 : Int32) (z : LwS) : Option LwS :=
  bnd7 (f_W_setCosts v1 v2 v3 v4 v5 z.cp1_acts z.cp1_nextSlot z.cp1_hk z.cp1_st z.cp1_now_today z.cp1_now_products z.cp1_now_itemCount z.cp1_now_items z.cp1_now_books z.cp1_now_terms z.cp1_now_shelves_lanes z.cp1_now_shelves_positions z.cp1_now_shelves_room z.cp1_now_shelves_gap z.cp1_now_shelves_places z.cp1_now_shelves_picked z.cp1_now_shelves_lot z.cp1_now_shelves_pieces z.cp1_now_shelves_mark z.cp1_now_shelves_byDistance z.cp1_now_lots_count z.cp1_now_lots_product z.cp1_now_lots_last z.cp1_now_lots_cost z.cp1_now_lots_state z.cp1_now_lots_byLast z.cp1_now_orders_count z.cp1_now_orders_gifts z.cp1_now_orders_customer z.cp1_now_orders_product z.cp1_now_orders_open z.cp1_now_orders_due z.cp1_now_orders_life z.cp1_now_orders_byDue z.cp1_now_orders_had z.cp1_now_orders_stamps z.cp3) (fun r1 o3 o4 o5 o6 o7 o8 =>
  (bnd6 (f_Y8_setCosts v1 v2 v3 v4 v5 z.cp2_raised z.cp2_undos z.cp2_eldest z.cp2_w z.cp2_kept) (fun r9 o11 o12 o13 o14 o15 =>
  (bnd1 (f_Y8_thrown o11) (fun r16 =>
  ((if r16 = r1 then (if r1 = 0 then gd 0 1 ((if (lg_cmp (o8 (0 : Int32).toNatClampNeg) r9.toInt64) = 0 then some (o3, o4, z.cp1_now_today, z.cp1_now_products, z.cp1_now_itemCount, z.cp1_now_items, z.cp1_now_books, o7, z.cp1_now_shelves_lanes, z.cp1_now_shelves_positions, z.cp1_now_shelves_room, z.cp1_now_shelves_gap, z.cp1_now_shelves_places, z.cp1_now_shelves_picked, z.cp1_now_shelves_lot, z.cp1_now_shelves_pieces, z.cp1_now_shelves_mark, z.cp1_now_shelves_byDistance, z.cp1_now_lots_count, z.cp1_now_lots_product, z.cp1_now_lots_last, z.cp1_now_lots_cost, z.cp1_now_lots_state, z.cp1_now_lots_byLast, z.cp1_now_orders_count, z.cp1_now_orders_gifts, z.cp1_now_orders_customer, z.cp1_now_orders_product, z.cp1_now_orders_open, z.cp1_now_orders_due, z.cp1_now_orders_life, z.cp1_now_orders_byDue, z.cp1_now_orders_had, z.cp1_now_orders_stamps, o5, o6, z.cp1_plan_terms, z.cp1_plan_low, z.cp1_plan_high, z.cp1_plan_bottom, z.cp1_plan_cost, z.cp1_plan_act, z.cp1_picker_deepest, z.cp1_picker_shallowest, z.cp1_picker_widest, z.cp1_picker_least, z.cp1_picker_next, z.cp1_rest, z.cp1_packed, o11, o12, o13, o14, o15, z.cp2_copy, z.cp2_near, z.cp2_isDone, z.cp2_lane, z.cp2_position, z.cp2_least, z.cp2_boxesOf, z.cp2_staying, z.cp2_planned, z.cp2_scale, o8)
  else none))
  else some (o3, o4, z.cp1_now_today, z.cp1_now_products, z.cp1_now_itemCount, z.cp1_now_items, z.cp1_now_books, o7, z.cp1_now_shelves_lanes, z.cp1_now_shelves_positions, z.cp1_now_shelves_room, z.cp1_now_shelves_gap, z.cp1_now_shelves_places, z.cp1_now_shelves_picked, z.cp1_now_shelves_lot, z.cp1_now_shelves_pieces, z.cp1_now_shelves_mark, z.cp1_now_shelves_byDistance, z.cp1_now_lots_count, z.cp1_now_lots_product, z.cp1_now_lots_last, z.cp1_now_lots_cost, z.cp1_now_lots_state, z.cp1_now_lots_byLast, z.cp1_now_orders_count, z.cp1_now_orders_gifts, z.cp1_now_orders_customer, z.cp1_now_orders_product, z.cp1_now_orders_open, z.cp1_now_orders_due, z.cp1_now_orders_life, z.cp1_now_orders_byDue, z.cp1_now_orders_had, z.cp1_now_orders_stamps, o5, o6, z.cp1_plan_terms, z.cp1_plan_low, z.cp1_plan_high, z.cp1_plan_bottom, z.cp1_plan_cost, z.cp1_plan_act, z.cp1_picker_deepest, z.cp1_picker_shallowest, z.cp1_picker_widest, z.cp1_picker_least, z.cp1_picker_next, z.cp1_rest, z.cp1_packed, o11, o12, o13, o14, o15, z.cp2_copy, z.cp2_near, z.cp2_isDone, z.cp2_lane, z.cp2_position, z.cp2_least, z.cp2_boxesOf, z.cp2_staying, z.cp2_planned, z.cp2_scale, o8))
  else none)))))))
def f_c38 (v1 v2 v3 v4 v5 : Int32) (z : LwS) : Option LwS :=
  bnd8 (f_W_lowBound v1 z.cp1_now_terms z.cp1_plan_terms z.cp1_plan_low z.cp1_plan_high z.cp1_plan_bottom z.cp1_plan_cost z.cp1_plan_act z.cp3) (fun r1 o3 o4 o5 o6 o7 o8 o9 =>
  (bnd5 (f_Y8_lowBound v1 z.cp2_raised z.cp2_w z.cp2_staying z.cp2_planned z.cp2_scale) (fun r10 o12 o13 o14 o15 =>
  (bnd1 (f_Y8_thrown o12) (fun r16 =>
  ((if r16 = r1 then (if r1 = 0 then gd 0 1 ((if (lg_cmp (o9 (0 : Int32).toNatClampNeg) r10.toInt64) = 0 then some (z.cp1_acts, z.cp1_nextSlot, z.cp1_now_today, z.cp1_now_products, z.cp1_now_itemCount, z.cp1_now_items, z.cp1_now_books, z.cp1_now_terms, z.cp1_now_shelves_lanes, z.cp1_now_shelves_positions, z.cp1_now_shelves_room, z.cp1_now_shelves_gap, z.cp1_now_shelves_places, z.cp1_now_shelves_picked, z.cp1_now_shelves_lot, z.cp1_now_shelves_pieces, z.cp1_now_shelves_mark, z.cp1_now_shelves_byDistance, z.cp1_now_lots_count, z.cp1_now_lots_product, z.cp1_now_lots_last, z.cp1_now_lots_cost, z.cp1_now_lots_state, z.cp1_now_lots_byLast, z.cp1_now_orders_count, z.cp1_now_orders_gifts, z.cp1_now_orders_customer, z.cp1_now_orders_product, z.cp1_now_orders_open, z.cp1_now_orders_due, z.cp1_now_orders_life, z.cp1_now_orders_byDue, z.cp1_now_orders_had, z.cp1_now_orders_stamps, z.cp1_hk, z.cp1_st, o3, o4, o5, o6, o7, o8, z.cp1_picker_deepest, z.cp1_picker_shallowest, z.cp1_picker_widest, z.cp1_picker_least, z.cp1_picker_next, z.cp1_rest, z.cp1_packed, o12, z.cp2_undos, z.cp2_eldest, z.cp2_w, z.cp2_kept, z.cp2_copy, z.cp2_near, z.cp2_isDone, z.cp2_lane, z.cp2_position, z.cp2_least, z.cp2_boxesOf, o13, o14, o15, o9)
  else none))
  else some (z.cp1_acts, z.cp1_nextSlot, z.cp1_now_today, z.cp1_now_products, z.cp1_now_itemCount, z.cp1_now_items, z.cp1_now_books, z.cp1_now_terms, z.cp1_now_shelves_lanes, z.cp1_now_shelves_positions, z.cp1_now_shelves_room, z.cp1_now_shelves_gap, z.cp1_now_shelves_places, z.cp1_now_shelves_picked, z.cp1_now_shelves_lot, z.cp1_now_shelves_pieces, z.cp1_now_shelves_mark, z.cp1_now_shelves_byDistance, z.cp1_now_lots_count, z.cp1_now_lots_product, z.cp1_now_lots_last, z.cp1_now_lots_cost, z.cp1_now_lots_state, z.cp1_now_lots_byLast, z.cp1_now_orders_count, z.cp1_now_orders_gifts, z.cp1_now_orders_customer, z.cp1_now_orders_product, z.cp1_now_orders_open, z.cp1_now_orders_due, z.cp1_now_orders_life, z.cp1_now_orders_byDue, z.cp1_now_orders_had, z.cp1_now_orders_stamps, z.cp1_hk, z.cp1_st, o3, o4, o5, o6, o7, o8, z.cp1_picker_deepest, z.cp1_picker_shallowest, z.cp1_picker_widest, z.cp1_picker_least, z.cp1_picker_next, z.cp1_rest, z.cp1_packed, o12, z.cp2_undos, z.cp2_eldest, z.cp2_w, z.cp2_kept, z.cp2_copy, z.cp2_near, z.cp2_isDone, z.cp2_lane, z.cp2_position, z.cp2_least, z.cp2_boxesOf, o13, o14, o15, o9))
  else none)))))))
def f_c39 (v1 v2 v3 v4 v5 : Int32) (z : LwS) : Option LwS :=
  bnd8 (f_W_highBound v1 z.cp1_now_terms z.cp1_plan_terms z.cp1_plan_low z.cp1_plan_high z.cp1_plan_bottom z.cp1_plan_cost z.cp1_plan_act z.cp3) (fun r1 o3 o4 o5 o6 o7 o8 o9 =>
  (bnd5 (f_Y8_highBound v1 z.cp2_raised z.cp2_w z.cp2_staying z.cp2_planned z.cp2_scale) (fun r10 o12 o13 o14 o15 =>
  (bnd1 (f_Y8_thrown o12) (fun r16 =>
  ((if r16 = r1 then (if r1 = 0 then gd 0 1 ((if (lg_cmp (o9 (0 : Int32).toNatClampNeg) r10.toInt64) = 0 then some (z.cp1_acts, z.cp1_nextSlot, z.cp1_now_today, z.cp1_now_products, z.cp1_now_itemCount, z.cp1_now_items, z.cp1_now_books, z.cp1_now_terms, z.cp1_now_shelves_lanes, z.cp1_now_shelves_positions, z.cp1_now_shelves_room, z.cp1_now_shelves_gap, z.cp1_now_shelves_places, z.cp1_now_shelves_picked, z.cp1_now_shelves_lot, z.cp1_now_shelves_pieces, z.cp1_now_shelves_mark, z.cp1_now_shelves_byDistance, z.cp1_now_lots_count, z.cp1_now_lots_product, z.cp1_now_lots_last, z.cp1_now_lots_cost, z.cp1_now_lots_state, z.cp1_now_lots_byLast, z.cp1_now_orders_count, z.cp1_now_orders_gifts, z.cp1_now_orders_customer, z.cp1_now_orders_product, z.cp1_now_orders_open, z.cp1_now_orders_due, z.cp1_now_orders_life, z.cp1_now_orders_byDue, z.cp1_now_orders_had, z.cp1_now_orders_stamps, z.cp1_hk, z.cp1_st, o3, o4, o5, o6, o7, o8, z.cp1_picker_deepest, z.cp1_picker_shallowest, z.cp1_picker_widest, z.cp1_picker_least, z.cp1_picker_next, z.cp1_rest, z.cp1_packed, o12, z.cp2_undos, z.cp2_eldest, z.cp2_w, z.cp2_kept, z.cp2_copy, z.cp2_near, z.cp2_isDone, z.cp2_lane, z.cp2_position, z.cp2_least, z.cp2_boxesOf, o13, o14, o15, o9)
  else none))
  else some (z.cp1_acts, z.cp1_nextSlot, z.cp1_now_today, z.cp1_now_products, z.cp1_now_itemCount, z.cp1_now_items, z.cp1_now_books, z.cp1_now_terms, z.cp1_now_shelves_lanes, z.cp1_now_shelves_positions, z.cp1_now_shelves_room, z.cp1_now_shelves_gap, z.cp1_now_shelves_places, z.cp1_now_shelves_picked, z.cp1_now_shelves_lot, z.cp1_now_shelves_pieces, z.cp1_now_shelves_mark, z.cp1_now_shelves_byDistance, z.cp1_now_lots_count, z.cp1_now_lots_product, z.cp1_now_lots_last, z.cp1_now_lots_cost, z.cp1_now_lots_state, z.cp1_now_lots_byLast, z.cp1_now_orders_count, z.cp1_now_orders_gifts, z.cp1_now_orders_customer, z.cp1_now_orders_product, z.cp1_now_orders_open, z.cp1_now_orders_due, z.cp1_now_orders_life, z.cp1_now_orders_byDue, z.cp1_now_orders_had, z.cp1_now_orders_stamps, z.cp1_hk, z.cp1_st, o3, o4, o5, o6, o7, o8, z.cp1_picker_deepest, z.cp1_picker_shallowest, z.cp1_picker_widest, z.cp1_picker_least, z.cp1_picker_next, z.cp1_rest, z.cp1_packed, o12, z.cp2_undos, z.cp2_eldest, z.cp2_w, z.cp2_kept, z.cp2_copy, z.cp2_near, z.cp2_isDone, z.cp2_lane, z.cp2_position, z.cp2_least, z.cp2_boxesOf, o13, o14, o15, o9))
  else none)))))))
def f_c40 (v1 v2 v3 v4 v5 : Int32) (z : LwS) : Option LwS :=
  bnd8 (f_W_bestAct v1 v2 z.cp1_now_terms z.cp1_plan_terms z.cp1_plan_low z.cp1_plan_high z.cp1_plan_bottom z.cp1_plan_cost z.cp1_plan_act z.cp3) (fun r1 o3 o4 o5 o6 o7 o8 o9 =>
  (bnd5 (f_Y8_bestAct v1 v2 z.cp2_raised z.cp2_w z.cp2_staying z.cp2_planned z.cp2_scale) (fun r10 o12 o13 o14 o15 =>
  (bnd1 (f_Y8_thrown o12) (fun r16 =>
  ((if r16 = r1 then (if r1 = 0 then gd 0 1 ((if (lg_cmp (o9 (0 : Int32).toNatClampNeg) r10.toInt64) = 0 then some (z.cp1_acts, z.cp1_nextSlot, z.cp1_now_today, z.cp1_now_products, z.cp1_now_itemCount, z.cp1_now_items, z.cp1_now_books, z.cp1_now_terms, z.cp1_now_shelves_lanes, z.cp1_now_shelves_positions, z.cp1_now_shelves_room, z.cp1_now_shelves_gap, z.cp1_now_shelves_places, z.cp1_now_shelves_picked, z.cp1_now_shelves_lot, z.cp1_now_shelves_pieces, z.cp1_now_shelves_mark, z.cp1_now_shelves_byDistance, z.cp1_now_lots_count, z.cp1_now_lots_product, z.cp1_now_lots_last, z.cp1_now_lots_cost, z.cp1_now_lots_state, z.cp1_now_lots_byLast, z.cp1_now_orders_count, z.cp1_now_orders_gifts, z.cp1_now_orders_customer, z.cp1_now_orders_product, z.cp1_now_orders_open, z.cp1_now_orders_due, z.cp1_now_orders_life, z.cp1_now_orders_byDue, z.cp1_now_orders_had, z.cp1_now_orders_stamps, z.cp1_hk, z.cp1_st, o3, o4, o5, o6, o7, o8, z.cp1_picker_deepest, z.cp1_picker_shallowest, z.cp1_picker_widest, z.cp1_picker_least, z.cp1_picker_next, z.cp1_rest, z.cp1_packed, o12, z.cp2_undos, z.cp2_eldest, z.cp2_w, z.cp2_kept, z.cp2_copy, z.cp2_near, z.cp2_isDone, z.cp2_lane, z.cp2_position, z.cp2_least, z.cp2_boxesOf, o13, o14, o15, o9)
  else none))
  else some (z.cp1_acts, z.cp1_nextSlot, z.cp1_now_today, z.cp1_now_products, z.cp1_now_itemCount, z.cp1_now_items, z.cp1_now_books, z.cp1_now_terms, z.cp1_now_shelves_lanes, z.cp1_now_shelves_positions, z.cp1_now_shelves_room, z.cp1_now_shelves_gap, z.cp1_now_shelves_places, z.cp1_now_shelves_picked, z.cp1_now_shelves_lot, z.cp1_now_shelves_pieces, z.cp1_now_shelves_mark, z.cp1_now_shelves_byDistance, z.cp1_now_lots_count, z.cp1_now_lots_product, z.cp1_now_lots_last, z.cp1_now_lots_cost, z.cp1_now_lots_state, z.cp1_now_lots_byLast, z.cp1_now_orders_count, z.cp1_now_orders_gifts, z.cp1_now_orders_customer, z.cp1_now_orders_product, z.cp1_now_orders_open, z.cp1_now_orders_due, z.cp1_now_orders_life, z.cp1_now_orders_byDue, z.cp1_now_orders_had, z.cp1_now_orders_stamps, z.cp1_hk, z.cp1_st, o3, o4, o5, o6, o7, o8, z.cp1_picker_deepest, z.cp1_picker_shallowest, z.cp1_picker_widest, z.cp1_picker_least, z.cp1_picker_next, z.cp1_rest, z.cp1_packed, o12, z.cp2_undos, z.cp2_eldest, z.cp2_w, z.cp2_kept, z.cp2_copy, z.cp2_near, z.cp2_isDone, z.cp2_lane, z.cp2_position, z.cp2_least, z.cp2_boxesOf, o13, o14, o15, o9))
  else none)))))))
def f_c41 (v1 v2 v3 v4 v5 : Int32) (z : LwS) : Option LwS :=
  (if v3 = 0 then bnd8 (f_W_planCost v1 v2 0 z.cp1_now_terms z.cp1_plan_terms z.cp1_plan_low z.cp1_plan_high z.cp1_plan_bottom z.cp1_plan_cost z.cp1_plan_act z.cp3) (fun r2 o4 o5 o6 o7 o8 o9 o10 =>
  ((if v3 = 0 then bnd5 (f_Y8_planCost v1 v2 0 z.cp2_raised z.cp2_w z.cp2_staying z.cp2_planned z.cp2_scale) (fun r12 o14 o15 o16 o17 =>
  (bnd1 (f_Y8_thrown o14) (fun r18 =>
  ((if r18 = r2 then (if r2 = 0 then gd 0 1 ((if (lg_cmp (o10 (0 : Int32).toNatClampNeg) r12) = 0 then some (z.cp1_acts, z.cp1_nextSlot, z.cp1_now_today, z.cp1_now_products, z.cp1_now_itemCount, z.cp1_now_items, z.cp1_now_books, z.cp1_now_terms, z.cp1_now_shelves_lanes, z.cp1_now_shelves_positions, z.cp1_now_shelves_room, z.cp1_now_shelves_gap, z.cp1_now_shelves_places, z.cp1_now_shelves_picked, z.cp1_now_shelves_lot, z.cp1_now_shelves_pieces, z.cp1_now_shelves_mark, z.cp1_now_shelves_byDistance, z.cp1_now_lots_count, z.cp1_now_lots_product, z.cp1_now_lots_last, z.cp1_now_lots_cost, z.cp1_now_lots_state, z.cp1_now_lots_byLast, z.cp1_now_orders_count, z.cp1_now_orders_gifts, z.cp1_now_orders_customer, z.cp1_now_orders_product, z.cp1_now_orders_open, z.cp1_now_orders_due, z.cp1_now_orders_life, z.cp1_now_orders_byDue, z.cp1_now_orders_had, z.cp1_now_orders_stamps, z.cp1_hk, z.cp1_st, o4, o5, o6, o7, o8, o9, z.cp1_picker_deepest, z.cp1_picker_shallowest, z.cp1_picker_widest, z.cp1_picker_least, z.cp1_picker_next, z.cp1_rest, z.cp1_packed, o14, z.cp2_undos, z.cp2_eldest, z.cp2_w, z.cp2_kept, z.cp2_copy, z.cp2_near, z.cp2_isDone, z.cp2_lane, z.cp2_position, z.cp2_least, z.cp2_boxesOf, o15, o16, o17, o10)
  else none))
  else some (z.cp1_acts, z.cp1_nextSlot, z.cp1_now_today, z.cp1_now_products, z.cp1_now_itemCount, z.cp1_now_items, z.cp1_now_books, z.cp1_now_terms, z.cp1_now_shelves_lanes, z.cp1_now_shelves_positions, z.cp1_now_shelves_room, z.cp1_now_shelves_gap, z.cp1_now_shelves_places, z.cp1_now_shelves_picked, z.cp1_now_shelves_lot, z.cp1_now_shelves_pieces, z.cp1_now_shelves_mark, z.cp1_now_shelves_byDistance, z.cp1_now_lots_count, z.cp1_now_lots_product, z.cp1_now_lots_last, z.cp1_now_lots_cost, z.cp1_now_lots_state, z.cp1_now_lots_byLast, z.cp1_now_orders_count, z.cp1_now_orders_gifts, z.cp1_now_orders_customer, z.cp1_now_orders_product, z.cp1_now_orders_open, z.cp1_now_orders_due, z.cp1_now_orders_life, z.cp1_now_orders_byDue, z.cp1_now_orders_had, z.cp1_now_orders_stamps, z.cp1_hk, z.cp1_st, o4, o5, o6, o7, o8, o9, z.cp1_picker_deepest, z.cp1_picker_shallowest, z.cp1_picker_widest, z.cp1_picker_least, z.cp1_picker_next, z.cp1_rest, z.cp1_packed, o14, z.cp2_undos, z.cp2_eldest, z.cp2_w, z.cp2_kept, z.cp2_copy, z.cp2_near, z.cp2_isDone, z.cp2_lane, z.cp2_position, z.cp2_least, z.cp2_boxesOf, o15, o16, o17, o10))
  else none)))))
  else bnd5 (f_Y8_planCost v1 v2 1 z.cp2_raised z.cp2_w z.cp2_staying z.cp2_planned z.cp2_scale) (fun r24 o26 o27 o28 o29 =>
  (bnd1 (f_Y8_thrown o26) (fun r30 =>
  ((if r30 = r2 then (if r2 = 0 then gd 0 1 ((if (lg_cmp (o10 (0 : Int32).toNatClampNeg) r24) = 0 then some (z.cp1_acts, z.cp1_nextSlot, z.cp1_now_today, z.cp1_now_products, z.cp1_now_itemCount, z.cp1_now_items, z.cp1_now_books, z.cp1_now_terms, z.cp1_now_shelves_lanes, z.cp1_now_shelves_positions, z.cp1_now_shelves_room, z.cp1_now_shelves_gap, z.cp1_now_shelves_places, z.cp1_now_shelves_picked, z.cp1_now_shelves_lot, z.cp1_now_shelves_pieces, z.cp1_now_shelves_mark, z.cp1_now_shelves_byDistance, z.cp1_now_lots_count, z.cp1_now_lots_product, z.cp1_now_lots_last, z.cp1_now_lots_cost, z.cp1_now_lots_state, z.cp1_now_lots_byLast, z.cp1_now_orders_count, z.cp1_now_orders_gifts, z.cp1_now_orders_customer, z.cp1_now_orders_product, z.cp1_now_orders_open, z.cp1_now_orders_due, z.cp1_now_orders_life, z.cp1_now_orders_byDue, z.cp1_now_orders_had, z.cp1_now_orders_stamps, z.cp1_hk, z.cp1_st, o4, o5, o6, o7, o8, o9, z.cp1_picker_deepest, z.cp1_picker_shallowest, z.cp1_picker_widest, z.cp1_picker_least, z.cp1_picker_next, z.cp1_rest, z.cp1_packed, o26, z.cp2_undos, z.cp2_eldest, z.cp2_w, z.cp2_kept, z.cp2_copy, z.cp2_near, z.cp2_isDone, z.cp2_lane, z.cp2_position, z.cp2_least, z.cp2_boxesOf, o27, o28, o29, o10)
  else none))
  else some (z.cp1_acts, z.cp1_nextSlot, z.cp1_now_today, z.cp1_now_products, z.cp1_now_itemCount, z.cp1_now_items, z.cp1_now_books, z.cp1_now_terms, z.cp1_now_shelves_lanes, z.cp1_now_shelves_positions, z.cp1_now_shelves_room, z.cp1_now_shelves_gap, z.cp1_now_shelves_places, z.cp1_now_shelves_picked, z.cp1_now_shelves_lot, z.cp1_now_shelves_pieces, z.cp1_now_shelves_mark, z.cp1_now_shelves_byDistance, z.cp1_now_lots_count, z.cp1_now_lots_product, z.cp1_now_lots_last, z.cp1_now_lots_cost, z.cp1_now_lots_state, z.cp1_now_lots_byLast, z.cp1_now_orders_count, z.cp1_now_orders_gifts, z.cp1_now_orders_customer, z.cp1_now_orders_product, z.cp1_now_orders_open, z.cp1_now_orders_due, z.cp1_now_orders_life, z.cp1_now_orders_byDue, z.cp1_now_orders_had, z.cp1_now_orders_stamps, z.cp1_hk, z.cp1_st, o4, o5, o6, o7, o8, o9, z.cp1_picker_deepest, z.cp1_picker_shallowest, z.cp1_picker_widest, z.cp1_picker_least, z.cp1_picker_next, z.cp1_rest, z.cp1_packed, o26, z.cp2_undos, z.cp2_eldest, z.cp2_w, z.cp2_kept, z.cp2_copy, z.cp2_near, z.cp2_isDone, z.cp2_lane, z.cp2_position, z.cp2_least, z.cp2_boxesOf, o27, o28, o29, o10))
  else none))))))))
  else bnd8 (f_W_planCost v1 v2 1 z.cp1_now_terms z.cp1_plan_terms z.cp1_plan_low z.cp1_plan_high z.cp1_plan_bottom z.cp1_plan_cost z.cp1_plan_act z.cp3) (fun r36 o38 o39 o40 o41 o42 o43 o44 =>
  ((if v3 = 0 then bnd5 (f_Y8_planCost v1 v2 0 z.cp2_raised z.cp2_w z.cp2_staying z.cp2_planned z.cp2_scale) (fun r46 o48 o49 o50 o51 =>
  (bnd1 (f_Y8_thrown o48) (fun r52 =>
  ((if r52 = r36 then (if r36 = 0 then gd 0 1 ((if (lg_cmp (o44 (0 : Int32).toNatClampNeg) r46) = 0 then some (z.cp1_acts, z.cp1_nextSlot, z.cp1_now_today, z.cp1_now_products, z.cp1_now_itemCount, z.cp1_now_items, z.cp1_now_books, z.cp1_now_terms, z.cp1_now_shelves_lanes, z.cp1_now_shelves_positions, z.cp1_now_shelves_room, z.cp1_now_shelves_gap, z.cp1_now_shelves_places, z.cp1_now_shelves_picked, z.cp1_now_shelves_lot, z.cp1_now_shelves_pieces, z.cp1_now_shelves_mark, z.cp1_now_shelves_byDistance, z.cp1_now_lots_count, z.cp1_now_lots_product, z.cp1_now_lots_last, z.cp1_now_lots_cost, z.cp1_now_lots_state, z.cp1_now_lots_byLast, z.cp1_now_orders_count, z.cp1_now_orders_gifts, z.cp1_now_orders_customer, z.cp1_now_orders_product, z.cp1_now_orders_open, z.cp1_now_orders_due, z.cp1_now_orders_life, z.cp1_now_orders_byDue, z.cp1_now_orders_had, z.cp1_now_orders_stamps, z.cp1_hk, z.cp1_st, o38, o39, o40, o41, o42, o43, z.cp1_picker_deepest, z.cp1_picker_shallowest, z.cp1_picker_widest, z.cp1_picker_least, z.cp1_picker_next, z.cp1_rest, z.cp1_packed, o48, z.cp2_undos, z.cp2_eldest, z.cp2_w, z.cp2_kept, z.cp2_copy, z.cp2_near, z.cp2_isDone, z.cp2_lane, z.cp2_position, z.cp2_least, z.cp2_boxesOf, o49, o50, o51, o44)
  else none))
  else some (z.cp1_acts, z.cp1_nextSlot, z.cp1_now_today, z.cp1_now_products, z.cp1_now_itemCount, z.cp1_now_items, z.cp1_now_books, z.cp1_now_terms, z.cp1_now_shelves_lanes, z.cp1_now_shelves_positions, z.cp1_now_shelves_room, z.cp1_now_shelves_gap, z.cp1_now_shelves_places, z.cp1_now_shelves_picked, z.cp1_now_shelves_lot, z.cp1_now_shelves_pieces, z.cp1_now_shelves_mark, z.cp1_now_shelves_byDistance, z.cp1_now_lots_count, z.cp1_now_lots_product, z.cp1_now_lots_last, z.cp1_now_lots_cost, z.cp1_now_lots_state, z.cp1_now_lots_byLast, z.cp1_now_orders_count, z.cp1_now_orders_gifts, z.cp1_now_orders_customer, z.cp1_now_orders_product, z.cp1_now_orders_open, z.cp1_now_orders_due, z.cp1_now_orders_life, z.cp1_now_orders_byDue, z.cp1_now_orders_had, z.cp1_now_orders_stamps, z.cp1_hk, z.cp1_st, o38, o39, o40, o41, o42, o43, z.cp1_picker_deepest, z.cp1_picker_shallowest, z.cp1_picker_widest, z.cp1_picker_least, z.cp1_picker_next, z.cp1_rest, z.cp1_packed, o48, z.cp2_undos, z.cp2_eldest, z.cp2_w, z.cp2_kept, z.cp2_copy, z.cp2_near, z.cp2_isDone, z.cp2_lane, z.cp2_position, z.cp2_least, z.cp2_boxesOf, o49, o50, o51, o44))
  else none)))))
  else bnd5 (f_Y8_planCost v1 v2 1 z.cp2_raised z.cp2_w z.cp2_staying z.cp2_planned z.cp2_scale) (fun r58 o60 o61 o62 o63 =>
  (bnd1 (f_Y8_thrown o60) (fun r64 =>
  ((if r64 = r36 then (if r36 = 0 then gd 0 1 ((if (lg_cmp (o44 (0 : Int32).toNatClampNeg) r58) = 0 then some (z.cp1_acts, z.cp1_nextSlot, z.cp1_now_today, z.cp1_now_products, z.cp1_now_itemCount, z.cp1_now_items, z.cp1_now_books, z.cp1_now_terms, z.cp1_now_shelves_lanes, z.cp1_now_shelves_positions, z.cp1_now_shelves_room, z.cp1_now_shelves_gap, z.cp1_now_shelves_places, z.cp1_now_shelves_picked, z.cp1_now_shelves_lot, z.cp1_now_shelves_pieces, z.cp1_now_shelves_mark, z.cp1_now_shelves_byDistance, z.cp1_now_lots_count, z.cp1_now_lots_product, z.cp1_now_lots_last, z.cp1_now_lots_cost, z.cp1_now_lots_state, z.cp1_now_lots_byLast, z.cp1_now_orders_count, z.cp1_now_orders_gifts, z.cp1_now_orders_customer, z.cp1_now_orders_product, z.cp1_now_orders_open, z.cp1_now_orders_due, z.cp1_now_orders_life, z.cp1_now_orders_byDue, z.cp1_now_orders_had, z.cp1_now_orders_stamps, z.cp1_hk, z.cp1_st, o38, o39, o40, o41, o42, o43, z.cp1_picker_deepest, z.cp1_picker_shallowest, z.cp1_picker_widest, z.cp1_picker_least, z.cp1_picker_next, z.cp1_rest, z.cp1_packed, o60, z.cp2_undos, z.cp2_eldest, z.cp2_w, z.cp2_kept, z.cp2_copy, z.cp2_near, z.cp2_isDone, z.cp2_lane, z.cp2_position, z.cp2_least, z.cp2_boxesOf, o61, o62, o63, o44)
  else none))
  else some (z.cp1_acts, z.cp1_nextSlot, z.cp1_now_today, z.cp1_now_products, z.cp1_now_itemCount, z.cp1_now_items, z.cp1_now_books, z.cp1_now_terms, z.cp1_now_shelves_lanes, z.cp1_now_shelves_positions, z.cp1_now_shelves_room, z.cp1_now_shelves_gap, z.cp1_now_shelves_places, z.cp1_now_shelves_picked, z.cp1_now_shelves_lot, z.cp1_now_shelves_pieces, z.cp1_now_shelves_mark, z.cp1_now_shelves_byDistance, z.cp1_now_lots_count, z.cp1_now_lots_product, z.cp1_now_lots_last, z.cp1_now_lots_cost, z.cp1_now_lots_state, z.cp1_now_lots_byLast, z.cp1_now_orders_count, z.cp1_now_orders_gifts, z.cp1_now_orders_customer, z.cp1_now_orders_product, z.cp1_now_orders_open, z.cp1_now_orders_due, z.cp1_now_orders_life, z.cp1_now_orders_byDue, z.cp1_now_orders_had, z.cp1_now_orders_stamps, z.cp1_hk, z.cp1_st, o38, o39, o40, o41, o42, o43, z.cp1_picker_deepest, z.cp1_picker_shallowest, z.cp1_picker_widest, z.cp1_picker_least, z.cp1_picker_next, z.cp1_rest, z.cp1_packed, o60, z.cp2_undos, z.cp2_eldest, z.cp2_w, z.cp2_kept, z.cp2_copy, z.cp2_near, z.cp2_isDone, z.cp2_lane, z.cp2_position, z.cp2_least, z.cp2_boxesOf, o61, o62, o63, o44))
  else none)))))))))
def f_c42 (v1 v2 v3 v4 v5 : Int32) (z : LwS) : Option LwS :=
  bnd2 (f_W_book v1 z.cp1_now_books z.cp1_now_shelves_places z.cp1_now_shelves_pieces z.cp3) (fun r1 o3 =>
  (bnd2 (f_Y8_book v1 z.cp2_raised z.cp2_w) (fun r4 o6 =>
  (bnd1 (f_Y8_thrown o6) (fun r7 =>
  ((if r7 = r1 then (if r1 = 0 then gd 0 1 ((if (lg_cmp (o3 (0 : Int32).toNatClampNeg) r4.toInt64) = 0 then some (z.cp1_acts, z.cp1_nextSlot, z.cp1_now_today, z.cp1_now_products, z.cp1_now_itemCount, z.cp1_now_items, z.cp1_now_books, z.cp1_now_terms, z.cp1_now_shelves_lanes, z.cp1_now_shelves_positions, z.cp1_now_shelves_room, z.cp1_now_shelves_gap, z.cp1_now_shelves_places, z.cp1_now_shelves_picked, z.cp1_now_shelves_lot, z.cp1_now_shelves_pieces, z.cp1_now_shelves_mark, z.cp1_now_shelves_byDistance, z.cp1_now_lots_count, z.cp1_now_lots_product, z.cp1_now_lots_last, z.cp1_now_lots_cost, z.cp1_now_lots_state, z.cp1_now_lots_byLast, z.cp1_now_orders_count, z.cp1_now_orders_gifts, z.cp1_now_orders_customer, z.cp1_now_orders_product, z.cp1_now_orders_open, z.cp1_now_orders_due, z.cp1_now_orders_life, z.cp1_now_orders_byDue, z.cp1_now_orders_had, z.cp1_now_orders_stamps, z.cp1_hk, z.cp1_st, z.cp1_plan_terms, z.cp1_plan_low, z.cp1_plan_high, z.cp1_plan_bottom, z.cp1_plan_cost, z.cp1_plan_act, z.cp1_picker_deepest, z.cp1_picker_shallowest, z.cp1_picker_widest, z.cp1_picker_least, z.cp1_picker_next, z.cp1_rest, z.cp1_packed, o6, z.cp2_undos, z.cp2_eldest, z.cp2_w, z.cp2_kept, z.cp2_copy, z.cp2_near, z.cp2_isDone, z.cp2_lane, z.cp2_position, z.cp2_least, z.cp2_boxesOf, z.cp2_staying, z.cp2_planned, z.cp2_scale, o3)
  else none))
  else some (z.cp1_acts, z.cp1_nextSlot, z.cp1_now_today, z.cp1_now_products, z.cp1_now_itemCount, z.cp1_now_items, z.cp1_now_books, z.cp1_now_terms, z.cp1_now_shelves_lanes, z.cp1_now_shelves_positions, z.cp1_now_shelves_room, z.cp1_now_shelves_gap, z.cp1_now_shelves_places, z.cp1_now_shelves_picked, z.cp1_now_shelves_lot, z.cp1_now_shelves_pieces, z.cp1_now_shelves_mark, z.cp1_now_shelves_byDistance, z.cp1_now_lots_count, z.cp1_now_lots_product, z.cp1_now_lots_last, z.cp1_now_lots_cost, z.cp1_now_lots_state, z.cp1_now_lots_byLast, z.cp1_now_orders_count, z.cp1_now_orders_gifts, z.cp1_now_orders_customer, z.cp1_now_orders_product, z.cp1_now_orders_open, z.cp1_now_orders_due, z.cp1_now_orders_life, z.cp1_now_orders_byDue, z.cp1_now_orders_had, z.cp1_now_orders_stamps, z.cp1_hk, z.cp1_st, z.cp1_plan_terms, z.cp1_plan_low, z.cp1_plan_high, z.cp1_plan_bottom, z.cp1_plan_cost, z.cp1_plan_act, z.cp1_picker_deepest, z.cp1_picker_shallowest, z.cp1_picker_widest, z.cp1_picker_least, z.cp1_picker_next, z.cp1_rest, z.cp1_packed, o6, z.cp2_undos, z.cp2_eldest, z.cp2_w, z.cp2_kept, z.cp2_copy, z.cp2_near, z.cp2_isDone, z.cp2_lane, z.cp2_position, z.cp2_least, z.cp2_boxesOf, z.cp2_staying, z.cp2_planned, z.cp2_scale, o3))
  else none)))))))
def f_c43 (v1 v2 v3 v4 v5 : Int32) (z : LwS) : Option LwS :=
  bnd36 (f_W_undo z.cp1_acts z.cp1_nextSlot z.cp1_hk z.cp1_st z.cp1_now_today z.cp1_now_products z.cp1_now_itemCount z.cp1_now_items z.cp1_now_books z.cp1_now_terms z.cp1_now_shelves_lanes z.cp1_now_shelves_positions z.cp1_now_shelves_room z.cp1_now_shelves_gap z.cp1_now_shelves_places z.cp1_now_shelves_picked z.cp1_now_shelves_lot z.cp1_now_shelves_pieces z.cp1_now_shelves_mark z.cp1_now_shelves_byDistance z.cp1_now_lots_count z.cp1_now_lots_product z.cp1_now_lots_last z.cp1_now_lots_cost z.cp1_now_lots_state z.cp1_now_lots_byLast z.cp1_now_orders_count z.cp1_now_orders_gifts z.cp1_now_orders_customer z.cp1_now_orders_product z.cp1_now_orders_open z.cp1_now_orders_due z.cp1_now_orders_life z.cp1_now_orders_byDue z.cp1_now_orders_had z.cp1_now_orders_stamps z.cp3) (fun r1 o3 o4 o5 o6 o7 o8 o9 o10 o11 o12 o13 o14 o15 o16 o17 o18 o19 o20 o21 o22 o23 o24 o25 o26 o27 o28 o29 o30 o31 o32 o33 o34 o35 o36 o37 =>
  (bnd5 (f_Y8_undo z.cp2_raised z.cp2_undos z.cp2_eldest z.cp2_w z.cp2_kept z.cp2_near) (fun r38 o40 o41 o42 o43 =>
  (bnd1 (f_Y8_thrown o40) (fun r44 =>
  ((if r44 = r1 then (if r1 = 0 then gd 0 1 ((if (lg_cmp (o37 (0 : Int32).toNatClampNeg) r38.toInt64) = 0 then some (o3, o4, o5, o6, o7, o8, o9, o10, o11, o12, o13, o14, o15, o16, o17, o18, o19, o20, o21, o22, o23, o24, o25, o26, o27, o28, o29, o30, o31, o32, o33, o34, o35, o36, z.cp1_hk, z.cp1_st, z.cp1_plan_terms, z.cp1_plan_low, z.cp1_plan_high, z.cp1_plan_bottom, z.cp1_plan_cost, z.cp1_plan_act, z.cp1_picker_deepest, z.cp1_picker_shallowest, z.cp1_picker_widest, z.cp1_picker_least, z.cp1_picker_next, z.cp1_rest, z.cp1_packed, o40, o41, z.cp2_eldest, o42, z.cp2_kept, z.cp2_copy, o43, z.cp2_isDone, z.cp2_lane, z.cp2_position, z.cp2_least, z.cp2_boxesOf, z.cp2_staying, z.cp2_planned, z.cp2_scale, o37)
  else none))
  else some (o3, o4, o5, o6, o7, o8, o9, o10, o11, o12, o13, o14, o15, o16, o17, o18, o19, o20, o21, o22, o23, o24, o25, o26, o27, o28, o29, o30, o31, o32, o33, o34, o35, o36, z.cp1_hk, z.cp1_st, z.cp1_plan_terms, z.cp1_plan_low, z.cp1_plan_high, z.cp1_plan_bottom, z.cp1_plan_cost, z.cp1_plan_act, z.cp1_picker_deepest, z.cp1_picker_shallowest, z.cp1_picker_widest, z.cp1_picker_least, z.cp1_picker_next, z.cp1_rest, z.cp1_packed, o40, o41, z.cp2_eldest, o42, z.cp2_kept, z.cp2_copy, o43, z.cp2_isDone, z.cp2_lane, z.cp2_position, z.cp2_least, z.cp2_boxesOf, z.cp2_staying, z.cp2_planned, z.cp2_scale, o37))
  else none)))))))
def f_c44 (v1 v2 v3 v4 v5 : Int32) (z : LwS) : Option LwS :=
  bnd1 (f_X7_actCount z.cp1_acts) (fun r1 =>
  (bnd2 (f_Y8_actCount z.cp2_raised z.cp2_undos) (fun r3 o5 =>
  ((if r1 = r3 then some (z.cp1_acts, z.cp1_nextSlot, z.cp1_now_today, z.cp1_now_products, z.cp1_now_itemCount, z.cp1_now_items, z.cp1_now_books, z.cp1_now_terms, z.cp1_now_shelves_lanes, z.cp1_now_shelves_positions, z.cp1_now_shelves_room, z.cp1_now_shelves_gap, z.cp1_now_shelves_places, z.cp1_now_shelves_picked, z.cp1_now_shelves_lot, z.cp1_now_shelves_pieces, z.cp1_now_shelves_mark, z.cp1_now_shelves_byDistance, z.cp1_now_lots_count, z.cp1_now_lots_product, z.cp1_now_lots_last, z.cp1_now_lots_cost, z.cp1_now_lots_state, z.cp1_now_lots_byLast, z.cp1_now_orders_count, z.cp1_now_orders_gifts, z.cp1_now_orders_customer, z.cp1_now_orders_product, z.cp1_now_orders_open, z.cp1_now_orders_due, z.cp1_now_orders_life, z.cp1_now_orders_byDue, z.cp1_now_orders_had, z.cp1_now_orders_stamps, z.cp1_hk, z.cp1_st, z.cp1_plan_terms, z.cp1_plan_low, z.cp1_plan_high, z.cp1_plan_bottom, z.cp1_plan_cost, z.cp1_plan_act, z.cp1_picker_deepest, z.cp1_picker_shallowest, z.cp1_picker_widest, z.cp1_picker_least, z.cp1_picker_next, z.cp1_rest, z.cp1_packed, o5, z.cp2_undos, z.cp2_eldest, z.cp2_w, z.cp2_kept, z.cp2_copy, z.cp2_near, z.cp2_isDone, z.cp2_lane, z.cp2_position, z.cp2_least, z.cp2_boxesOf, z.cp2_staying, z.cp2_planned, z.cp2_scale, z.cp3)
  else none)))))
def f_c47 (v1 v2 v3 v4 v5 : Int32) (z : LwS) : Option LwS :=
  bnd1 (f_X7_checksum z.cp1_now_today z.cp1_now_shelves_places z.cp1_now_shelves_lot z.cp1_now_shelves_pieces z.cp1_now_orders_count z.cp1_now_orders_open z.cp1_now_orders_had) (fun r1 =>
  (bnd2 (f_Y8_checksum z.cp2_raised z.cp2_w) (fun r3 o5 =>
  ((if (lg_cmp r1 r3) = 0 then some (z.cp1_acts, z.cp1_nextSlot, z.cp1_now_today, z.cp1_now_products, z.cp1_now_itemCount, z.cp1_now_items, z.cp1_now_books, z.cp1_now_terms, z.cp1_now_shelves_lanes, z.cp1_now_shelves_positions, z.cp1_now_shelves_room, z.cp1_now_shelves_gap, z.cp1_now_shelves_places, z.cp1_now_shelves_picked, z.cp1_now_shelves_lot, z.cp1_now_shelves_pieces, z.cp1_now_shelves_mark, z.cp1_now_shelves_byDistance, z.cp1_now_lots_count, z.cp1_now_lots_product, z.cp1_now_lots_last, z.cp1_now_lots_cost, z.cp1_now_lots_state, z.cp1_now_lots_byLast, z.cp1_now_orders_count, z.cp1_now_orders_gifts, z.cp1_now_orders_customer, z.cp1_now_orders_product, z.cp1_now_orders_open, z.cp1_now_orders_due, z.cp1_now_orders_life, z.cp1_now_orders_byDue, z.cp1_now_orders_had, z.cp1_now_orders_stamps, z.cp1_hk, z.cp1_st, z.cp1_plan_terms, z.cp1_plan_low, z.cp1_plan_high, z.cp1_plan_bottom, z.cp1_plan_cost, z.cp1_plan_act, z.cp1_picker_deepest, z.cp1_picker_shallowest, z.cp1_picker_widest, z.cp1_picker_least, z.cp1_picker_next, z.cp1_rest, z.cp1_packed, o5, z.cp2_undos, z.cp2_eldest, z.cp2_w, z.cp2_kept, z.cp2_copy, z.cp2_near, z.cp2_isDone, z.cp2_lane, z.cp2_position, z.cp2_least, z.cp2_boxesOf, z.cp2_staying, z.cp2_planned, z.cp2_scale, z.cp3)
  else none)))))
def f_c48 (v1 v2 v3 v4 v5 : Int32) (z : LwS) : Option LwS :=
  bnd16 (f_X7_errors z.cp1_now_products z.cp1_now_books z.cp1_now_terms z.cp1_now_shelves_places z.cp1_now_shelves_picked z.cp1_now_shelves_lot z.cp1_now_shelves_pieces z.cp1_now_shelves_mark z.cp1_now_shelves_byDistance z.cp1_now_lots_count z.cp1_now_lots_product z.cp1_now_lots_last z.cp1_now_lots_state z.cp1_now_lots_byLast z.cp1_now_orders_count z.cp1_now_orders_gifts z.cp1_now_orders_product z.cp1_now_orders_open z.cp1_now_orders_due z.cp1_now_orders_life z.cp1_now_orders_byDue z.cp1_now_orders_had z.cp1_now_orders_stamps z.cp1_plan_terms z.cp1_plan_low z.cp1_plan_high z.cp1_plan_bottom z.cp1_plan_cost z.cp1_plan_act z.cp1_rest) (fun r1 o3 o4 o5 o6 o7 o8 o9 o10 o11 o12 o13 o14 o15 o16 o17 =>
  (bnd2 (f_Y8_errors z.cp2_raised) (fun r18 o20 =>
  ((if r1 = r18 then some (z.cp1_acts, z.cp1_nextSlot, z.cp1_now_today, z.cp1_now_products, z.cp1_now_itemCount, z.cp1_now_items, z.cp1_now_books, z.cp1_now_terms, z.cp1_now_shelves_lanes, z.cp1_now_shelves_positions, z.cp1_now_shelves_room, z.cp1_now_shelves_gap, z.cp1_now_shelves_places, o3, o4, o5, o6, z.cp1_now_shelves_byDistance, z.cp1_now_lots_count, z.cp1_now_lots_product, z.cp1_now_lots_last, z.cp1_now_lots_cost, z.cp1_now_lots_state, z.cp1_now_lots_byLast, z.cp1_now_orders_count, o7, z.cp1_now_orders_customer, z.cp1_now_orders_product, o8, z.cp1_now_orders_due, z.cp1_now_orders_life, z.cp1_now_orders_byDue, o9, o10, z.cp1_hk, z.cp1_st, o11, o12, o13, o14, o15, o16, z.cp1_picker_deepest, z.cp1_picker_shallowest, z.cp1_picker_widest, z.cp1_picker_least, z.cp1_picker_next, o17, z.cp1_packed, o20, z.cp2_undos, z.cp2_eldest, z.cp2_w, z.cp2_kept, z.cp2_copy, z.cp2_near, z.cp2_isDone, z.cp2_lane, z.cp2_position, z.cp2_least, z.cp2_boxesOf, z.cp2_staying, z.cp2_planned, z.cp2_scale, z.cp3)
  else none)))))
def f_c45 (v1 v2 v3 v4 v5 : Int32) (z : LwS) : Option LwS :=
  bnd2 (f_X7_meanLife z.cp1_now_today z.cp1_now_shelves_places z.cp1_now_shelves_lot z.cp1_now_shelves_pieces z.cp1_now_lots_count z.cp1_now_lots_last z.cp1_rest) (fun r1 o3 =>
  bnd2 (f_Y8_meanLife z.cp2_raised z.cp2_w) (fun s2 s3 => if s2 = r1 then some (z.cp1_acts, z.cp1_nextSlot, z.cp1_now_today, z.cp1_now_products, z.cp1_now_itemCount, z.cp1_now_items, z.cp1_now_books, z.cp1_now_terms, z.cp1_now_shelves_lanes, z.cp1_now_shelves_positions, z.cp1_now_shelves_room, z.cp1_now_shelves_gap, z.cp1_now_shelves_places, z.cp1_now_shelves_picked, z.cp1_now_shelves_lot, z.cp1_now_shelves_pieces, z.cp1_now_shelves_mark, z.cp1_now_shelves_byDistance, z.cp1_now_lots_count, z.cp1_now_lots_product, z.cp1_now_lots_last, z.cp1_now_lots_cost, z.cp1_now_lots_state, z.cp1_now_lots_byLast, z.cp1_now_orders_count, z.cp1_now_orders_gifts, z.cp1_now_orders_customer, z.cp1_now_orders_product, z.cp1_now_orders_open, z.cp1_now_orders_due, z.cp1_now_orders_life, z.cp1_now_orders_byDue, z.cp1_now_orders_had, z.cp1_now_orders_stamps, z.cp1_hk, z.cp1_st, z.cp1_plan_terms, z.cp1_plan_low, z.cp1_plan_high, z.cp1_plan_bottom, z.cp1_plan_cost, z.cp1_plan_act, z.cp1_picker_deepest, z.cp1_picker_shallowest, z.cp1_picker_widest, z.cp1_picker_least, z.cp1_picker_next, o3, z.cp1_packed, s3, z.cp2_undos, z.cp2_eldest, z.cp2_w, z.cp2_kept, z.cp2_copy, z.cp2_near, z.cp2_isDone, z.cp2_lane, z.cp2_position, z.cp2_least, z.cp2_boxesOf, z.cp2_staying, z.cp2_planned, z.cp2_scale, z.cp3) else none))
def f_c46 (v1 v2 v3 v4 v5 : Int32) (z : LwS) : Option LwS :=
  bnd1 (f_X7_givenShare z.cp1_now_orders_count z.cp1_now_orders_open z.cp1_now_orders_had) (fun r1 =>
  bnd2 (f_Y8_givenShare z.cp2_raised z.cp2_w) (fun s2 s3 => if s2 = r1 then some (z.cp1_acts, z.cp1_nextSlot, z.cp1_now_today, z.cp1_now_products, z.cp1_now_itemCount, z.cp1_now_items, z.cp1_now_books, z.cp1_now_terms, z.cp1_now_shelves_lanes, z.cp1_now_shelves_positions, z.cp1_now_shelves_room, z.cp1_now_shelves_gap, z.cp1_now_shelves_places, z.cp1_now_shelves_picked, z.cp1_now_shelves_lot, z.cp1_now_shelves_pieces, z.cp1_now_shelves_mark, z.cp1_now_shelves_byDistance, z.cp1_now_lots_count, z.cp1_now_lots_product, z.cp1_now_lots_last, z.cp1_now_lots_cost, z.cp1_now_lots_state, z.cp1_now_lots_byLast, z.cp1_now_orders_count, z.cp1_now_orders_gifts, z.cp1_now_orders_customer, z.cp1_now_orders_product, z.cp1_now_orders_open, z.cp1_now_orders_due, z.cp1_now_orders_life, z.cp1_now_orders_byDue, z.cp1_now_orders_had, z.cp1_now_orders_stamps, z.cp1_hk, z.cp1_st, z.cp1_plan_terms, z.cp1_plan_low, z.cp1_plan_high, z.cp1_plan_bottom, z.cp1_plan_cost, z.cp1_plan_act, z.cp1_picker_deepest, z.cp1_picker_shallowest, z.cp1_picker_widest, z.cp1_picker_least, z.cp1_picker_next, z.cp1_rest, z.cp1_packed, s3, z.cp2_undos, z.cp2_eldest, z.cp2_w, z.cp2_kept, z.cp2_copy, z.cp2_near, z.cp2_isDone, z.cp2_lane, z.cp2_position, z.cp2_least, z.cp2_boxesOf, z.cp2_staying, z.cp2_planned, z.cp2_scale, z.cp3) else none))
def lw_step (t v1 v2 v3 v4 v5 : Int32) (z : LwS) : Option LwS :=
  if t = 0 then f_c0 v1 v2 v3 v4 v5 z
  else if t = 1 then f_c1 v1 v2 v3 v4 v5 z
  else if t = 2 then f_c2 v1 v2 v3 v4 v5 z
  else if t = 3 then f_c3 v1 v2 v3 v4 v5 z
  else if t = 4 then f_c4 v1 v2 v3 v4 v5 z
  else if t = 5 then f_c5 v1 v2 v3 v4 v5 z
  else if t = 6 then f_c6 v1 v2 v3 v4 v5 z
  else if t = 7 then f_c7 v1 v2 v3 v4 v5 z
  else if t = 8 then f_c8 v1 v2 v3 v4 v5 z
  else if t = 9 then f_c9 v1 v2 v3 v4 v5 z
  else if t = 10 then f_c10 v1 v2 v3 v4 v5 z
  else if t = 11 then f_c11 v1 v2 v3 v4 v5 z
  else if t = 12 then f_c12 v1 v2 v3 v4 v5 z
  else if t = 13 then f_c13 v1 v2 v3 v4 v5 z
  else if t = 14 then f_c14 v1 v2 v3 v4 v5 z
  else if t = 15 then f_c15 v1 v2 v3 v4 v5 z
  else if t = 16 then f_c16 v1 v2 v3 v4 v5 z
  else if t = 17 then f_c17 v1 v2 v3 v4 v5 z
  else if t = 18 then f_c18 v1 v2 v3 v4 v5 z
  else if t = 19 then f_c19 v1 v2 v3 v4 v5 z
  else if t = 20 then f_c20 v1 v2 v3 v4 v5 z
  else if t = 21 then f_c21 v1 v2 v3 v4 v5 z
  else if t = 22 then f_c22 v1 v2 v3 v4 v5 z
  else if t = 23 then f_c23 v1 v2 v3 v4 v5 z
  else if t = 24 then f_c24 v1 v2 v3 v4 v5 z
  else if t = 25 then f_c25 v1 v2 v3 v4 v5 z
  else if t = 26 then f_c26 v1 v2 v3 v4 v5 z
  else if t = 27 then f_c27 v1 v2 v3 v4 v5 z
  else if t = 28 then f_c28 v1 v2 v3 v4 v5 z
  else if t = 29 then f_c29 v1 v2 v3 v4 v5 z
  else if t = 30 then f_c30 v1 v2 v3 v4 v5 z
  else if t = 31 then f_c31 v1 v2 v3 v4 v5 z
  else if t = 32 then f_c32 v1 v2 v3 v4 v5 z
  else if t = 33 then f_c33 v1 v2 v3 v4 v5 z
  else if t = 34 then f_c34 v1 v2 v3 v4 v5 z
  else if t = 35 then f_c35 v1 v2 v3 v4 v5 z
  else if t = 36 then f_c36 v1 v2 v3 v4 v5 z
  else if t = 37 then f_c37 v1 v2 v3 v4 v5 z
  else if t = 38 then f_c38 v1 v2 v3 v4 v5 z
  else if t = 39 then f_c39 v1 v2 v3 v4 v5 z
  else if t = 40 then f_c40 v1 v2 v3 v4 v5 z
  else if t = 41 then f_c41 v1 v2 v3 v4 v5 z
  else if t = 42 then f_c42 v1 v2 v3 v4 v5 z
  else if t = 43 then f_c43 v1 v2 v3 v4 v5 z
  else if t = 44 then f_c44 v1 v2 v3 v4 v5 z
  else if t = 45 then f_c45 v1 v2 v3 v4 v5 z
  else if t = 46 then f_c46 v1 v2 v3 v4 v5 z
  else if t = 47 then f_c47 v1 v2 v3 v4 v5 z
  else if t = 48 then f_c48 v1 v2 v3 v4 v5 z
  else some z
def lwGoes (R : LwS → Prop) : Prop := ∀ (t v1 v2 v3 v4 v5 : Int32) (z : LwS), R z → ∃ z' : LwS, lw_step (t &&& 63) v1 v2 v3 v4 v5 z = some z' ∧ R z'
def lw_z0 : Option LwS :=
  bnd11 f_X7_init (fun oc_now_terms oc_now_shelves_lanes oc_now_shelves_positions oc_now_shelves_room oc_now_shelves_gap oc_now_shelves_places oc_now_shelves_picked oc_now_shelves_lot oc_now_shelves_pieces oc_now_shelves_mark oc_now_shelves_byDistance => bnd2 f_Y8_init (fun oc_w oc_near => some (0, 0, 0, 0, 0, (fun _ => 0), (fun _ => 0), oc_now_terms, oc_now_shelves_lanes, oc_now_shelves_positions, oc_now_shelves_room, oc_now_shelves_gap, oc_now_shelves_places, oc_now_shelves_picked, oc_now_shelves_lot, oc_now_shelves_pieces, oc_now_shelves_mark, oc_now_shelves_byDistance, 0, (fun _ => 0), (fun _ => 0), (fun _ => 0), (fun _ => 0), (fun _ => 0), 0, 0, (fun _ => 0), (fun _ => 0), (fun _ => 0), (fun _ => 0), (fun _ => 0), (fun _ => 0), (fun _ => 0), (fun _ => 0), 0, fun _ => stZ, (fun _ => 0), (fun _ => 0), (fun _ => 0), (fun _ => 0), (fun _ => 0), (fun _ => 0), 0, 0, 0, (fun _ => 0), (fun _ => 0), (fun _ => 0), (fun _ => 0), 0, 0, 0, oc_w, (fun _ => 0), (fun _ => 0), oc_near, (fun _ => 0), (fun _ => 0), (fun _ => 0), (fun _ => 0), (fun _ => 0), (fun _ => 0), (fun _ => 0), (fun _ => 0), (fun _ => 0))))
