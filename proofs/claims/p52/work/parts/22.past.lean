
theorem jn_addr {n : Nat} {isC isR : List Nat} {ws ws' wc wc' : va_W} (hC : pick ws isC = wc.map some) (hC' : pick ws' isC = wc'.map some) (hR : pick ws' isR = pick ws isR) (hl : ws'.length = n) (hl0 : ws.length = n) (hcov : (List.range n).all (fun k => isC.contains k || isR.contains k) = true) (hAd : wc'.map Prod.fst = wc.map Prod.fst) : ws'.map Prod.fst = ws.map Prod.fst := by
  apply List.ext_getElem?
  intro k
  rw [List.getElem?_map, List.getElem?_map]
  by_cases hk : k < n
  · obtain ⟨q, hq⟩ : ∃ q, ws'[k]? = some q := ⟨ws'[k]'(by omega), List.getElem?_eq_getElem (by omega)⟩
    by_cases hm : k ∈ isC
    · obtain ⟨j, h1, h2⟩ := jn_new hC' hm hq
      obtain ⟨e, -, h3⟩ := jn_old hC hAd h1 h2
      rw [hq, h3]; rfl
    · have hr : k ∈ isR := (jn_cov hcov hk).resolve_left hm
      rw [jn_rest hR hr]
  · rw [List.getElem?_eq_none_iff.mpr (by omega), List.getElem?_eq_none_iff.mpr (by omega)]
abbrev StT : Type := Int32 × Int32 × Int32 × (Nat → Int32) × (Nat → Int32) × (Nat → Int32) × Int32 × Int32 × Int32 × Int32 × Int32 × Int64 × (Nat → Int32) × (Nat → Int32) × (Nat → Int32) × (Nat → Int32) × Int32 × (Nat → Int32) × (Nat → Int32) × (Nat → Int32) × (Nat → Int32) × (Nat → Int32) × Int32 × Int32 × (Nat → Int32) × (Nat → Int32) × (Nat → Int32) × (Nat → Int32) × (Nat → Int32) × (Nat → Int32) × (Nat → Int32) × (Nat → Int32)
def wSt (cI : ClassId) (a : Nat → Nat) (t : StT) : va_W := [oX6 (a 0) t.1 t.2.1 t.2.2.1 (a 1) (a 2) (a 3) (a 4) (a 9) (a 15), rI cI (a 1) 8 t.2.2.2.1, rI cI (a 2) 6 t.2.2.2.2.1, rI cI (a 3) 10 t.2.2.2.2.2.1, oX5 (a 4) t.2.2.2.2.2.2.1 t.2.2.2.2.2.2.2.1 t.2.2.2.2.2.2.2.2.1 t.2.2.2.2.2.2.2.2.2.1 t.2.2.2.2.2.2.2.2.2.2.1 t.2.2.2.2.2.2.2.2.2.2.2.1 (a 5) (a 6) (a 7) (a 8), rI cI (a 5) 48 t.2.2.2.2.2.2.2.2.2.2.2.2.1, rI cI (a 6) 48 t.2.2.2.2.2.2.2.2.2.2.2.2.2.1, rI cI (a 7) 48 t.2.2.2.2.2.2.2.2.2.2.2.2.2.2.1, rI cI (a 8) 48 t.2.2.2.2.2.2.2.2.2.2.2.2.2.2.2.1, oX1 (a 9) t.2.2.2.2.2.2.2.2.2.2.2.2.2.2.2.2.1 (a 10) (a 11) (a 12) (a 13) (a 14), rI cI (a 10) 24 t.2.2.2.2.2.2.2.2.2.2.2.2.2.2.2.2.2.1, rI cI (a 11) 24 t.2.2.2.2.2.2.2.2.2.2.2.2.2.2.2.2.2.2.1, rI cI (a 12) 24 t.2.2.2.2.2.2.2.2.2.2.2.2.2.2.2.2.2.2.2.1, rI cI (a 13) 24 t.2.2.2.2.2.2.2.2.2.2.2.2.2.2.2.2.2.2.2.2.1, rI cI (a 14) 24 t.2.2.2.2.2.2.2.2.2.2.2.2.2.2.2.2.2.2.2.2.2.1, oX2 (a 15) t.2.2.2.2.2.2.2.2.2.2.2.2.2.2.2.2.2.2.2.2.2.2.1 t.2.2.2.2.2.2.2.2.2.2.2.2.2.2.2.2.2.2.2.2.2.2.2.1 (a 16) (a 17) (a 18) (a 19) (a 20) (a 21) (a 22) (a 23), rI cI (a 16) 40 t.2.2.2.2.2.2.2.2.2.2.2.2.2.2.2.2.2.2.2.2.2.2.2.2.1, rI cI (a 17) 40 t.2.2.2.2.2.2.2.2.2.2.2.2.2.2.2.2.2.2.2.2.2.2.2.2.2.1, rI cI (a 18) 40 t.2.2.2.2.2.2.2.2.2.2.2.2.2.2.2.2.2.2.2.2.2.2.2.2.2.2.1, rI cI (a 19) 40 t.2.2.2.2.2.2.2.2.2.2.2.2.2.2.2.2.2.2.2.2.2.2.2.2.2.2.2.1, rI cI (a 20) 40 t.2.2.2.2.2.2.2.2.2.2.2.2.2.2.2.2.2.2.2.2.2.2.2.2.2.2.2.2.1, rI cI (a 21) 40 t.2.2.2.2.2.2.2.2.2.2.2.2.2.2.2.2.2.2.2.2.2.2.2.2.2.2.2.2.2.1, rI cI (a 22) 960 t.2.2.2.2.2.2.2.2.2.2.2.2.2.2.2.2.2.2.2.2.2.2.2.2.2.2.2.2.2.2.1, rI cI (a 23) 960 t.2.2.2.2.2.2.2.2.2.2.2.2.2.2.2.2.2.2.2.2.2.2.2.2.2.2.2.2.2.2.2]
def pastW (cI : ClassId) (k : Nat) (ad : Nat → Nat → Nat) (st : Nat → StT) : va_W := (List.range k).flatMap fun i => wSt cI (ad i) (st i)
theorem pastW_succ (cI : ClassId) (k : Nat) (ad : Nat → Nat → Nat) (st : Nat → StT) : pastW cI (k + 1) ad st = pastW cI k ad st ++ wSt cI (ad k) (st k) := by
  simp [pastW, List.range_succ, List.flatMap_append]
theorem pastW_congr {cI : ClassId} {k : Nat} {ad ad' : Nat → Nat → Nat} {st st' : Nat → StT} (h : ∀ i, i < k → ad i = ad' i ∧ st i = st' i) : pastW cI k ad st = pastW cI k ad' st' := by
  induction k with
  | zero => rfl
  | succ k ih =>
    rw [pastW_succ, pastW_succ, ih (fun i hi => h i (by omega)), (h k (by omega)).1, (h k (by omega)).2]
theorem pastW_split {cI : ClassId} {ad : Nat → Nat → Nat} {st : Nat → StT} {j : Nat} : ∀ k, j < k → ∃ L R : va_W, pastW cI k ad st = L ++ wSt cI (ad j) (st j) ++ R ∧ ∀ st' : Nat → StT, (∀ i, i ≠ j → st' i = st i) → pastW cI k ad st' = L ++ wSt cI (ad j) (st' j) ++ R := by
  intro k
  induction k with
  | zero => intro h; omega
  | succ k ih =>
    intro h
    by_cases hk : j < k
    · obtain ⟨L, R, h1, h2⟩ := ih hk
      refine ⟨L, R ++ wSt cI (ad k) (st k), ?_, fun st' hs => ?_⟩
      · rw [pastW_succ, h1]; simp [List.append_assoc]
      · rw [pastW_succ, h2 st' hs, hs k (by omega)]; simp [List.append_assoc]
    · have hj : j = k := by omega
      subst hj
      refine ⟨pastW cI j ad st, [], ?_, fun st' hs => ?_⟩
      · rw [pastW_succ]; simp
      · rw [pastW_succ, pastW_congr (ad' := ad) (st' := st) (fun i hi => ⟨rfl, hs i (by omega)⟩)]; simp
theorem va_P_iff {D : va_G} {cl : List vw_C} {ws : va_W} {H : Heap} : va_P D cl ws H ↔ ∀ q ∈ ws, va_at D cl q H := by
  constructor
  · intro h q hq
    obtain ⟨k, hk⟩ := List.getElem?_of_mem hq
    exact h k q hk
  · intro h k q hk
    exact h q (List.mem_of_getElem? hk)
theorem va_P_perm {D : va_G} {cl : List vw_C} {ws ws' : va_W} {H : Heap} (h : va_P D cl ws H) (hp : ws.Perm ws') : va_P D cl ws' H := va_P_iff.mpr fun q hq => va_P_iff.mp h q (hp.mem_iff.mpr hq)
theorem va_D_iff {A : Nat → Prop} {ws : va_W} : va_D A ws ↔ (ws.map Prod.fst).Nodup ∧ ∀ q ∈ ws, A q.1 := by
  constructor
  · intro h
    refine ⟨?_, fun q hq => by obtain ⟨k, hk⟩ := List.getElem?_of_mem hq; exact h.2 k q hk⟩
    rw [List.nodup_iff_pairwise_ne, List.pairwise_iff_getElem]
    intro i j hi hj hij he
    simp only [List.length_map] at hi hj
    simp only [List.getElem_map] at he
    have := h.1 i j ws[i] ws[j] (List.getElem?_eq_getElem hi) (List.getElem?_eq_getElem hj) he
    omega
  · intro ⟨h1, h2⟩
    refine ⟨fun i j p q hi hj he => ?_, fun k q hk => h2 q (List.mem_of_getElem? hk)⟩
    obtain ⟨hi1, hi2⟩ := List.getElem?_eq_some_iff.mp hi
    obtain ⟨hj1, hj2⟩ := List.getElem?_eq_some_iff.mp hj
    rw [List.nodup_iff_pairwise_ne, List.pairwise_iff_getElem] at h1
    rcases Nat.lt_trichotomy i j with h | h | h
    · exfalso
      have := h1 i j (by simpa using hi1) (by simpa using hj1) h
      simp only [List.getElem_map, hi2, hj2] at this
      exact this he
    · exact h
    · exfalso
      have := h1 j i (by simpa using hj1) (by simpa using hi1) h
      simp only [List.getElem_map, hi2, hj2] at this
      exact this he.symm
theorem va_D_perm {A : Nat → Prop} {ws ws' : va_W} (h : va_D A ws) (hp : ws.Perm ws') : va_D A ws' := by
  rw [va_D_iff] at h ⊢
  exact ⟨(hp.map Prod.fst).nodup_iff.mp h.1, fun q hq => h.2 q (hp.mem_iff.mpr hq)⟩
theorem va_D_addr {A : Nat → Prop} {ws ws' : va_W} (h : va_D A ws) (hp : ws'.map Prod.fst = ws.map Prod.fst) : va_D A ws' := by
  rw [va_D_iff] at h ⊢
  refine ⟨by rw [hp]; exact h.1, fun q hq => ?_⟩
  have h1 : q.1 ∈ ws.map Prod.fst := by rw [← hp]; exact List.mem_map.mpr ⟨q, hq, rfl⟩
  obtain ⟨z, hz, he⟩ := List.mem_map.mp h1
  rw [← he]; exact h.2 z hz
theorem pick_sub {lit wc : va_W} : ∀ {isC : List Nat}, pick lit isC = wc.map some → ∀ q ∈ wc, ∃ k : Nat, k ∈ isC ∧ lit[k]? = some q := by
  intro isC h q hq
  obtain ⟨j, hj⟩ := List.getElem?_of_mem hq
  have h1 : (pick lit isC)[j]? = some (some q) := by rw [h, List.getElem?_map, hj]; rfl
  cases h2 : isC[j]? with
  | none =>
    exfalso
    have h3 : ∀ is : List Nat, (pick lit is).length = is.length := fun is => by induction is with
      | nil => rfl
      | cons a b ih => simp [pick, ih]
    have h4 : (pick lit isC).length ≤ j := by rw [h3]; exact List.getElem?_eq_none_iff.mp h2
    rw [List.getElem?_eq_none_iff.mpr h4] at h1
    cases h1
  | some k =>
    rw [pick_at isC j k h2] at h1
    exact ⟨k, List.mem_of_getElem? h2, Option.some.inj h1⟩
theorem va_D_part {A : Nat → Prop} {lit wc tail : va_W} (hD : va_D A (lit ++ tail)) (isC : List Nat) (hn : va_nd isC = true) (hC : isC.map (fun i => lit[i]?) = wc.map some) : va_D A (wc ++ tail) := by
  have hlit : va_D A lit := by
    rw [va_D_iff] at hD ⊢
    rw [List.map_append, List.nodup_append] at hD
    exact ⟨hD.1.1, fun q hq => hD.2 q (List.mem_append_left _ hq)⟩
  have hwc := hlit.sub isC hn hC
  have hmem : ∀ q ∈ wc, q ∈ lit := by
    intro q hq
    have h1 : some q ∈ isC.map (fun i => lit[i]?) := by rw [hC]; exact List.mem_map.mpr ⟨q, hq, rfl⟩
    obtain ⟨i, -, hi⟩ := List.mem_map.mp h1
    exact List.mem_of_getElem? hi
  rw [va_D_iff] at hD hwc ⊢
  rw [List.map_append, List.nodup_append] at hD ⊢
  refine ⟨⟨hwc.1, hD.1.2.1, fun a ha b hb => hD.1.2.2 a ?_ b hb⟩, fun q hq => ?_⟩
  · obtain ⟨z, hz, he⟩ := List.mem_map.mp ha
    exact List.mem_map.mpr ⟨z, hmem z hz, he⟩
  · rcases List.mem_append.mp hq with h | h
    · exact hwc.2 q h
    · exact hD.2 q (List.mem_append_right _ h)
theorem va_P_app {D : va_G} {a b : va_W} {H : Heap} : va_P D vwCl (a ++ b) H ↔ va_P D vwCl a H ∧ va_P D vwCl b H := by
  simp only [va_P_iff, List.mem_append]
  exact ⟨fun h => ⟨fun q hq => h q (Or.inl hq), fun q hq => h q (Or.inr hq)⟩, fun h q hq => hq.elim (h.1 q) (h.2 q)⟩
/-- behind a call that leaves the tail alone -/
theorem jnT_P {D : va_G} {A0 : Nat → Prop} {H H1 : Heap} {n : Nat} {isC isR : List Nat} {ws ws' wc wc' tail : va_W} (hP : va_P D vwCl (ws ++ tail) H) (hD : va_D A0 (ws ++ tail)) (hC : pick ws isC = wc.map some) (hC' : pick ws' isC = wc'.map some) (hR : pick ws' isR = pick ws isR) (hl : ws'.length = n) (hcov : (List.range n).all (fun k => isC.contains k || isR.contains k) = true)
    (hk : ∀ q : Nat, q < H.size → ¬ va_A wc H.size q → H1[q]? = H[q]?) (hP1 : va_P D vwCl wc' H1) : va_P D vwCl (ws' ++ tail) H1 := by
  have hd := va_D_iff.mp hD
  rw [List.map_append, List.nodup_append] at hd
  have hDl : va_D A0 ws := va_D_iff.mpr ⟨hd.1.1, fun q hq => hd.2 q (List.mem_append_left _ hq)⟩
  obtain ⟨hPl, hPt⟩ := va_P_app.mp hP
  refine va_P_app.mpr ⟨jn_P hPl hDl hC hC' hR hl hcov hk hP1, va_P_iff.mpr fun q hq => ?_⟩
  have hq1 := va_P_iff.mp hPt q hq
  refine hq1.kept (hk _ hq1.lt ?_)
  rintro (⟨j, e, h3⟩ | h3)
  · obtain ⟨k, -, h4⟩ := pick_sub hC _ (List.mem_of_getElem? h3)
    exact hd.1.2.2 q.1 (List.mem_map.mpr ⟨_, List.mem_of_getElem? h4, rfl⟩) q.1 (List.mem_map.mpr ⟨q, hq, rfl⟩) rfl
  · exact absurd hq1.lt (Nat.not_lt.mpr h3)
/-- behind a call that has the tail too -/
theorem jnP_P {D : va_G} {A0 : Nat → Prop} {H H1 : Heap} {n : Nat} {isC isR : List Nat} {ws ws' wc wc' tail tail' : va_W} (hP : va_P D vwCl (ws ++ tail) H) (hD : va_D A0 (ws ++ tail)) (hC : pick ws isC = wc.map some) (hC' : pick ws' isC = wc'.map some) (hR : pick ws' isR = pick ws isR) (hl : ws'.length = n) (hcov : (List.range n).all (fun k => isC.contains k || isR.contains k) = true)
    (hk : ∀ q : Nat, q < H.size → ¬ va_A (wc ++ tail) H.size q → H1[q]? = H[q]?) (hP1 : va_P D vwCl (wc' ++ tail') H1) : va_P D vwCl (ws' ++ tail') H1 := by
  have hd := va_D_iff.mp hD
  rw [List.map_append, List.nodup_append] at hd
  obtain ⟨hPl, hPt⟩ := va_P_app.mp hP
  obtain ⟨hP1l, hP1t⟩ := va_P_app.mp hP1
  refine va_P_app.mpr ⟨fun k q hq => ?_, hP1t⟩
  have hkn : k < n := by rw [← hl]; exact (List.getElem?_eq_some_iff.mp hq).1
  by_cases hm : k ∈ isC
  · obtain ⟨j, h1, h2⟩ := jn_new hC' hm hq
    exact hP1l j q h2
  · have hr : k ∈ isR := (jn_cov hcov hkn).resolve_left hm
    have h2 : ws[k]? = some q := by rw [← jn_rest hR hr]; exact hq
    have hq1 := hPl k q h2
    refine hq1.kept (hk _ hq1.lt ?_)
    rintro (⟨j, e, h3⟩ | h3)
    · rcases List.mem_append.mp (List.mem_of_getElem? h3) with h4 | h4
      · obtain ⟨i, hi1, hi2⟩ := pick_sub hC _ h4
        have h9 := hD.1 i k (q.1, e) q (by rw [List.getElem?_append_left (List.getElem?_eq_some_iff.mp hi2).1]; exact hi2) (by rw [List.getElem?_append_left (List.getElem?_eq_some_iff.mp h2).1]; exact h2) rfl
        subst h9
        exact hm hi1
      · exact hd.1.2.2 q.1 (List.mem_map.mpr ⟨_, List.mem_of_getElem? h2, rfl⟩) q.1 (List.mem_map.mpr ⟨_, h4, rfl⟩) rfl
    · exact absurd hq1.lt (Nat.not_lt.mpr h3)
theorem jnP_D {D : va_G} {A0 : Nat → Prop} {H : Heap} {n : Nat} {isC isR : List Nat} {ws ws' wc wc' tail tail' : va_W} (hP : va_P D vwCl (ws ++ tail) H) (hD : va_D A0 (ws ++ tail)) (hC : pick ws isC = wc.map some) (hC' : pick ws' isC = wc'.map some) (hR : pick ws' isR = pick ws isR) (hl : ws'.length = n) (hcov : (List.range n).all (fun k => isC.contains k || isR.contains k) = true) (hAd : wc'.map Prod.fst = wc.map Prod.fst)
    (hF : ∀ q, va_A (wc ++ tail) H.size q → A0 q) (hD1 : va_D (va_A (wc ++ tail) H.size) (wc' ++ tail')) : va_D A0 (ws' ++ tail') := by
  have hd := va_D_iff.mp hD
  rw [List.map_append, List.nodup_append] at hd
  have hDl : va_D A0 ws := va_D_iff.mpr ⟨hd.1.1, fun q hq => hd.2 q (List.mem_append_left _ hq)⟩
  have hPl := (va_P_app.mp hP).1
  have hDl' := jn_D hDl hC hC' hR hl hcov hAd
  have hd1 := va_D_iff.mp hD1
  rw [List.map_append, List.nodup_append] at hd1
  have hdl := va_D_iff.mp hDl'
  rw [va_D_iff, List.map_append, List.nodup_append]
  refine ⟨⟨hdl.1, hd1.1.2.1, fun a ha b hb hab => ?_⟩, fun q hq => ?_⟩
  · subst hab
    obtain ⟨z, hz, he⟩ := List.mem_map.mp ha
    obtain ⟨y, hy, hey⟩ := List.mem_map.mp hb
    obtain ⟨k, hk⟩ := List.getElem?_of_mem hz
    have hkn : k < n := by rw [← hl]; exact (List.getElem?_eq_some_iff.mp hk).1
    by_cases hm : k ∈ isC
    · obtain ⟨j, -, h2⟩ := jn_new hC' hm hk
      exact hd1.1.2.2 a (by rw [← he]; exact List.mem_map.mpr ⟨z, List.mem_of_getElem? h2, rfl⟩) a hb rfl
    · have hr : k ∈ isR := (jn_cov hcov hkn).resolve_left hm
      have h2 : ws[k]? = some z := by rw [← jn_rest hR hr]; exact hk
      have hlt := (hPl k z h2).lt
      have hA := hd1.2 y (List.mem_append_right _ hy)
      rw [hey, ← he] at hA
      rcases hA with ⟨j, e, h3⟩ | h3
      · rcases List.mem_append.mp (List.mem_of_getElem? h3) with h4 | h4
        · obtain ⟨i, hi1, hi2⟩ := pick_sub hC _ h4
          have h9 := hDl.1 i k (z.1, e) z hi2 h2 rfl
          subst h9
          exact hm hi1
        · exact hd.1.2.2 z.1 (List.mem_map.mpr ⟨_, List.mem_of_getElem? h2, rfl⟩) z.1 (List.mem_map.mpr ⟨_, h4, rfl⟩) rfl
      · exact absurd hlt (Nat.not_lt.mpr h3)
  · rcases List.mem_append.mp hq with h | h
    · exact hdl.2 q h
    · exact hF _ (hd1.2 q (List.mem_append_right _ h))
theorem va_freePP {A0 : Nat → Prop} {ws wc tail : va_W} {H0 H : Heap} {locs : List Loc} {isC : List Nat} (hD : va_D A0 (ws ++ tail)) (hS : va_S A0 H0 H locs) (hA : ∀ q, H0.size ≤ q → A0 q) (hC : pick ws isC = wc.map some) : ∀ q, va_A (wc ++ tail) H.size q → A0 q := by
  intro q h
  rcases h with ⟨k, e, h⟩ | h
  · rcases List.mem_append.mp (List.mem_of_getElem? h) with h4 | h4
    · obtain ⟨i, -, hi2⟩ := pick_sub hC _ h4
      exact (va_D_iff.mp hD).2 (q, e) (List.mem_append_left _ (List.mem_of_getElem? hi2))
    · exact (va_D_iff.mp hD).2 (q, e) (List.mem_append_right _ h4)
  · exact hA q (Nat.le_trans hS.1 h)
section GP
variable {p : Program} {l : Launch} {e : Env} {R : Room} {s : State} {m : MethodId} {args : Array Value} {below : List Frame} {meth : Method} {c : Code} {H : Heap} {locs : List Loc} {cells slots : Nat} {Q : State → Prop}
variable {pc : Nat} {ls : Array Slot} {rest st0 : List Value} {a : Array Value}
theorem rwt_calli {r : Int32} {mc ms : Nat} {A0 : Addr → Prop} {H0 : Heap} {D : va_G} {ws wc wc' tail : va_W} (hr : va_Run p l e R s m args below meth c H locs cells slots mc ms (F0 m pc ls st0) rest (va_Qi (fun (r2 : Int32) (_ : Unit) => r2 = r) (fun _ t => va_P D vwCl wc' t.heap) (va_A wc H.size) a) (va_A wc H.size))
    (hP : va_P D vwCl (ws ++ tail) H) (hD : va_D A0 (ws ++ tail)) (hS : va_S A0 H0 H locs) (hA : ∀ q, H0.size ≤ q → A0 q) (ws' : va_W) (n : Nat) (isC isR : List Nat) (hC : pick ws isC = wc.map some) (hC' : pick ws' isC = wc'.map some) (hR : pick ws' isR = pick ws isR) (hl : ws'.length = n) (hl0 : ws.length = n) (hcov : (List.range n).all (fun k => isC.contains k || isR.contains k) = true) (hAd : wc'.map Prod.fst = wc.map Prod.fst)
    (kk : ∀ (H1 : Heap) (locs1 : List Loc), va_P D vwCl (ws' ++ tail) H1 → va_D A0 (ws' ++ tail) → va_S A0 H0 H1 locs1 → W p l e R s m args below meth c H1 locs1 (cells + mc) (slots + ms) Q (F0 m (pc + 3) ls (.int r :: rest))) : W p l e R s m args below meth c H locs cells slots Q (F0 m pc ls st0) := by
  have hd := va_D_iff.mp hD
  rw [List.map_append, List.nodup_append] at hd
  have hDl : va_D A0 ws := va_D_iff.mpr ⟨hd.1.1, fun q hq => hd.2 q (List.mem_append_left _ hq)⟩
  have hF := va_free hDl hS hA isC (pick_map hC)
  refine va_calli hr hS (fun q _ h => hF q h) hF (fun r2 u t H1 locs1 ht hvm hw hB hz hk hS1 => ?_)
  subst hw
  rw [ht] at hB
  have hDl' := va_D_iff.mp (jn_D hDl hC hC' hR hl hcov hAd)
  have hmap : ws'.map Prod.fst = ws.map Prod.fst := jn_addr hC hC' hR hl hl0 hcov hAd
  refine kk H1 locs1 (jnT_P hP hD hC hC' hR hl hcov hk hB) (va_D_addr hD (by rw [List.map_append, List.map_append, hmap])) hS1

theorem rwt_calll {r : Int64} {mc ms : Nat} {A0 : Addr → Prop} {H0 : Heap} {D : va_G} {ws wc wc' tail : va_W} (hr : va_Run p l e R s m args below meth c H locs cells slots mc ms (F0 m pc ls st0) rest (va_Ql (fun (r2 : Int64) (_ : Unit) => r2 = r) (fun _ t => va_P D vwCl wc' t.heap) (va_A wc H.size) a) (va_A wc H.size))
    (hP : va_P D vwCl (ws ++ tail) H) (hD : va_D A0 (ws ++ tail)) (hS : va_S A0 H0 H locs) (hA : ∀ q, H0.size ≤ q → A0 q) (ws' : va_W) (n : Nat) (isC isR : List Nat) (hC : pick ws isC = wc.map some) (hC' : pick ws' isC = wc'.map some) (hR : pick ws' isR = pick ws isR) (hl : ws'.length = n) (hl0 : ws.length = n) (hcov : (List.range n).all (fun k => isC.contains k || isR.contains k) = true) (hAd : wc'.map Prod.fst = wc.map Prod.fst)
    (kk : ∀ (H1 : Heap) (locs1 : List Loc), va_P D vwCl (ws' ++ tail) H1 → va_D A0 (ws' ++ tail) → va_S A0 H0 H1 locs1 → W p l e R s m args below meth c H1 locs1 (cells + mc) (slots + ms) Q (F0 m (pc + 3) ls (.long r :: rest))) : W p l e R s m args below meth c H locs cells slots Q (F0 m pc ls st0) := by
  have hd := va_D_iff.mp hD
  rw [List.map_append, List.nodup_append] at hd
  have hDl : va_D A0 ws := va_D_iff.mpr ⟨hd.1.1, fun q hq => hd.2 q (List.mem_append_left _ hq)⟩
  have hF := va_free hDl hS hA isC (pick_map hC)
  refine va_calll hr hS (fun q _ h => hF q h) hF (fun r2 u t H1 locs1 ht hvm hw hB hz hk hS1 => ?_)
  subst hw
  rw [ht] at hB
  have hDl' := va_D_iff.mp (jn_D hDl hC hC' hR hl hcov hAd)
  have hmap : ws'.map Prod.fst = ws.map Prod.fst := jn_addr hC hC' hR hl hl0 hcov hAd
  refine kk H1 locs1 (jnT_P hP hD hC hC' hR hl hcov hk hB) (va_D_addr hD (by rw [List.map_append, List.map_append, hmap])) hS1

theorem rwt_callv {mc ms : Nat} {A0 : Addr → Prop} {H0 : Heap} {D : va_G} {ws wc wc' tail : va_W} (hr : va_Run p l e R s m args below meth c H locs cells slots mc ms (F0 m pc ls st0) rest (va_Qv (fun (_ : Unit) => True) (fun _ t => va_P D vwCl wc' t.heap) (va_A wc H.size) a) (va_A wc H.size))
    (hP : va_P D vwCl (ws ++ tail) H) (hD : va_D A0 (ws ++ tail)) (hS : va_S A0 H0 H locs) (hA : ∀ q, H0.size ≤ q → A0 q) (ws' : va_W) (n : Nat) (isC isR : List Nat) (hC : pick ws isC = wc.map some) (hC' : pick ws' isC = wc'.map some) (hR : pick ws' isR = pick ws isR) (hl : ws'.length = n) (hl0 : ws.length = n) (hcov : (List.range n).all (fun k => isC.contains k || isR.contains k) = true) (hAd : wc'.map Prod.fst = wc.map Prod.fst)
    (kk : ∀ (H1 : Heap) (locs1 : List Loc), va_P D vwCl (ws' ++ tail) H1 → va_D A0 (ws' ++ tail) → va_S A0 H0 H1 locs1 → W p l e R s m args below meth c H1 locs1 (cells + mc) (slots + ms) Q (F0 m (pc + 3) ls rest)) : W p l e R s m args below meth c H locs cells slots Q (F0 m pc ls st0) := by
  have hd := va_D_iff.mp hD
  rw [List.map_append, List.nodup_append] at hd
  have hDl : va_D A0 ws := va_D_iff.mpr ⟨hd.1.1, fun q hq => hd.2 q (List.mem_append_left _ hq)⟩
  have hF := va_free hDl hS hA isC (pick_map hC)
  refine va_callv hr hS (fun q _ h => hF q h) hF (fun u t H1 locs1 ht hvm hw hB hz hk hS1 => ?_)
  rw [ht] at hB
  have hDl' := va_D_iff.mp (jn_D hDl hC hC' hR hl hcov hAd)
  have hmap : ws'.map Prod.fst = ws.map Prod.fst := jn_addr hC hC' hR hl hl0 hcov hAd
  refine kk H1 locs1 (jnT_P hP hD hC hC' hR hl hcov hk hB) (va_D_addr hD (by rw [List.map_append, List.map_append, hmap])) hS1

theorem rwp_callv {mc ms : Nat} {A0 : Addr → Prop} {H0 : Heap} {D : va_G} {ws wc tail : va_W} {wc' tw : (Nat → Nat → Nat) → va_W} (hr : va_Run p l e R s m args below meth c H locs cells slots mc ms (F0 m pc ls st0) rest (va_Qv (fun (_ : Nat → Nat → Nat) => True) (fun ad t => va_P D vwCl (wc' ad ++ tw ad) t.heap ∧ va_D (va_A (wc ++ tail) H.size) (wc' ad ++ tw ad)) (va_A (wc ++ tail) H.size) a) (va_A (wc ++ tail) H.size))
    (hP : va_P D vwCl (ws ++ tail) H) (hD : va_D A0 (ws ++ tail)) (hS : va_S A0 H0 H locs) (hA : ∀ q, H0.size ≤ q → A0 q) (ws' tw' : (Nat → Nat → Nat) → va_W) (n : Nat) (isC isR : List Nat) (hC : pick ws isC = wc.map some) (hC' : ∀ ad, pick (ws' ad) isC = (wc' ad).map some) (hR : ∀ ad, pick (ws' ad) isR = pick ws isR) (hl : ∀ ad, (ws' ad).length = n) (htw : tw' = tw) (hcov : (List.range n).all (fun k => isC.contains k || isR.contains k) = true) (hAd : ∀ ad, (wc' ad).map Prod.fst = wc.map Prod.fst)
    (kk : ∀ (H1 : Heap) (locs1 : List Loc) (ad : Nat → Nat → Nat), va_P D vwCl (ws' ad ++ tw' ad) H1 → va_D A0 (ws' ad ++ tw' ad) → va_S A0 H0 H1 locs1 → W p l e R s m args below meth c H1 locs1 (cells + mc) (slots + ms) Q (F0 m (pc + 3) ls rest)) : W p l e R s m args below meth c H locs cells slots Q (F0 m pc ls st0) := by
  subst htw
  have hF := va_freePP hD hS hA hC
  refine va_callv hr hS (fun q _ h => hF q h) hF (fun ad t H1 locs1 ht hvm hw hB hz hk hS1 => ?_)
  obtain ⟨hB1, hB2⟩ := hB
  rw [ht] at hB1
  exact kk H1 locs1 ad (jnP_P hP hD hC (hC' ad) (hR ad) (hl ad) hcov hk hB1) (jnP_D hP hD hC (hC' ad) (hR ad) (hl ad) hcov (hAd ad) hF hB2) hS1
end GP
