abbrev wzh (y : MethodName) (c : ByteArray) (n : Nat) (r : Option FieldType) (hh : List (Nat × Nat × Nat × Nat)) : List Cond := Cond.codeWith y c n r hh :: wBIG
theorem mbh {w : Cond} {y : MethodName} {c : ByteArray} {n : Nat} {r : Option FieldType} {hh : List (Nat × Nat × Nat × Nat)} (h : w ∈ wBIG) : w ∈ wzh y c n r hh := List.mem_cons_of_mem _ h
theorem gVh {y0 : MethodName} {c0 : ByteArray} {n0 : Nat} {r0 : Option FieldType} {hh : List (Nat × Nat × Nat × Nat)} {own C : String} {idx : Nat} {y : MethodName} {c : ByteArray} {n : Nat} {r : Option FieldType} (h1 : Cond.methodLink own idx y ∈ wBIG) (h2 : Cond.instanceMethod y ∈ wBIG) (h3 : Cond.selects C y y ∈ wBIG) (h4 : Cond.initialized C ∈ wBIG) (h5 : Cond.code y c n r ∈ wBIG) : GoodIn (wzh y0 c0 n0 r0 hh) (wsV own idx C y (wz y c n r)) := by
  intro w hw
  have h := gV (y0 := y0) (c0 := c0) (n0 := n0) (r0 := r0) h1 h2 h3 h4 h5 w hw
  refine ⟨?_, h.2⟩
  simp only [wsV, wz, List.mem_append, List.mem_cons, List.not_mem_nil, or_false] at hw
  refine mbh ?_
  rcases hw with (rfl | rfl | rfl | rfl) | rfl | hw
  · exact h1
  · exact h2
  · exact h3
  · exact h4
  · exact h5
  · exact hw
section GH
variable {p : Program} {l : Launch} {e : Env} {R : Room} {s : State} {m : MethodId} {args : Array Value} {below : List Frame} {meth : Method} {c : Code} {H : Heap} {locs : List Loc} {cells slots : Nat} {Q : State → Prop}
variable {pc : Nat} {ls : Array Slot} {rest st0 : List Value} {a : Array Value}
theorem rwx_calli {r9 : Except String Int32} {mc ms : Nat} {A0 : Addr → Prop} {H0 : Heap} {D : va_G} {ws wc wc' : va_W} (hr : vx_Run p l e R s m args below meth c H locs cells slots mc ms (F0 m pc ls st0) rest (va_Qi (fun (r2 : Int32) (_ : Unit) => r9 = .ok r2) (fun _ t => va_P D vwCl wc' t.heap) (va_A wc H.size) a) (vx_X (fun (_ : Unit) => True) (fun E _ t => r9 = .error E ∧ va_P D vwCl wc' t.heap) (va_A wc H.size)) (va_A wc H.size))
    (hP : va_P D vwCl ws H) (hD : va_D A0 ws) (hS : va_S A0 H0 H locs) (hA : ∀ q, H0.size ≤ q → A0 q) (ws' : va_W) (n : Nat) (isC isR : List Nat) (hC : pick ws isC = wc.map some) (hC' : pick ws' isC = wc'.map some) (hR : pick ws' isR = pick ws isR) (hl : ws'.length = n) (hcov : (List.range n).all (fun k => isC.contains k || isR.contains k) = true) (hAd : wc'.map Prod.fst = wc.map Prod.fst)
    (kx : ∀ (E : String) (ce : Cell) (q9 : Addr) (H1 : Heap) (locs1 : List Loc), r9 = .error E → va_P D vwCl ws' H1 → va_D A0 ws' → va_S A0 H0 H1 locs1 → H1[q9]? = some ce → ce.vm = .none → s.vm.findClass E = some ce.cls → vx_W p l e R s m args below meth c H1 locs1 (cells + mc) (slots + ms) Q (F0 m pc ls rest) q9)
    (kk : ∀ (r : Int32) (H1 : Heap) (locs1 : List Loc), r9 = .ok r → va_P D vwCl ws' H1 → va_D A0 ws' → va_S A0 H0 H1 locs1 → W p l e R s m args below meth c H1 locs1 (cells + mc) (slots + ms) Q (F0 m (pc + 3) ls (.int r :: rest))) : W p l e R s m args below meth c H locs cells slots Q (F0 m pc ls st0) := by
  have hF := va_free hD hS hA isC (pick_map hC)
  refine vx_calli hr hS (fun q _ h => hF q h) hF (fun q _ h => hF q h) (fun E ce q9 u t H1 locs1 ht hvm _ hB hz hk hS1 h1 h2 h3 => ?_) (fun r2 u t H1 locs1 ht hvm hw hB hz hk hS1 => ?_)
  · obtain ⟨hw, hB⟩ := hB
    rw [ht] at hB
    exact kx E ce q9 H1 locs1 hw (jn_P hP hD hC hC' hR hl hcov hk hB) (jn_D hD hC hC' hR hl hcov hAd) hS1 h1 h2 h3
  · rw [ht] at hB
    exact kk r2 H1 locs1 hw (jn_P hP hD hC hC' hR hl hcov hk hB) (jn_D hD hC hC' hR hl hcov hAd) hS1
theorem rwx_calll {r9 : Except String Int64} {mc ms : Nat} {A0 : Addr → Prop} {H0 : Heap} {D : va_G} {ws wc wc' : va_W} (hr : vx_Run p l e R s m args below meth c H locs cells slots mc ms (F0 m pc ls st0) rest (va_Ql (fun (r2 : Int64) (_ : Unit) => r9 = .ok r2) (fun _ t => va_P D vwCl wc' t.heap) (va_A wc H.size) a) (vx_X (fun (_ : Unit) => True) (fun E _ t => r9 = .error E ∧ va_P D vwCl wc' t.heap) (va_A wc H.size)) (va_A wc H.size))
    (hP : va_P D vwCl ws H) (hD : va_D A0 ws) (hS : va_S A0 H0 H locs) (hA : ∀ q, H0.size ≤ q → A0 q) (ws' : va_W) (n : Nat) (isC isR : List Nat) (hC : pick ws isC = wc.map some) (hC' : pick ws' isC = wc'.map some) (hR : pick ws' isR = pick ws isR) (hl : ws'.length = n) (hcov : (List.range n).all (fun k => isC.contains k || isR.contains k) = true) (hAd : wc'.map Prod.fst = wc.map Prod.fst)
    (kx : ∀ (E : String) (ce : Cell) (q9 : Addr) (H1 : Heap) (locs1 : List Loc), r9 = .error E → va_P D vwCl ws' H1 → va_D A0 ws' → va_S A0 H0 H1 locs1 → H1[q9]? = some ce → ce.vm = .none → s.vm.findClass E = some ce.cls → vx_W p l e R s m args below meth c H1 locs1 (cells + mc) (slots + ms) Q (F0 m pc ls rest) q9)
    (kk : ∀ (r : Int64) (H1 : Heap) (locs1 : List Loc), r9 = .ok r → va_P D vwCl ws' H1 → va_D A0 ws' → va_S A0 H0 H1 locs1 → W p l e R s m args below meth c H1 locs1 (cells + mc) (slots + ms) Q (F0 m (pc + 3) ls (.long r :: rest))) : W p l e R s m args below meth c H locs cells slots Q (F0 m pc ls st0) := by
  have hF := va_free hD hS hA isC (pick_map hC)
  refine vx_calll hr hS (fun q _ h => hF q h) hF (fun q _ h => hF q h) (fun E ce q9 u t H1 locs1 ht hvm _ hB hz hk hS1 h1 h2 h3 => ?_) (fun r2 u t H1 locs1 ht hvm hw hB hz hk hS1 => ?_)
  · obtain ⟨hw, hB⟩ := hB
    rw [ht] at hB
    exact kx E ce q9 H1 locs1 hw (jn_P hP hD hC hC' hR hl hcov hk hB) (jn_D hD hC hC' hR hl hcov hAd) hS1 h1 h2 h3
  · rw [ht] at hB
    exact kk r2 H1 locs1 hw (jn_P hP hD hC hC' hR hl hcov hk hB) (jn_D hD hC hC' hR hl hcov hAd) hS1
theorem rwxp_calli {r9 : Except String Int32} {mc ms : Nat} {A0 : Addr → Prop} {H0 : Heap} {D : va_G} {ws wc tail : va_W} {wc' tw : (Nat → Nat → Nat) → va_W} (hr : vx_Run p l e R s m args below meth c H locs cells slots mc ms (F0 m pc ls st0) rest (va_Qi (fun (r2 : Int32) (_ : Nat → Nat → Nat) => r9 = .ok r2) (fun ad t => va_P D vwCl (wc' ad ++ tw ad) t.heap ∧ va_D (va_A (wc ++ tail) H.size) (wc' ad ++ tw ad)) (va_A (wc ++ tail) H.size) a) (vx_X (fun (_ : Nat → Nat → Nat) => True) (fun E ad t => r9 = .error E ∧ va_P D vwCl (wc' ad ++ tw ad) t.heap ∧ va_D (va_A (wc ++ tail) H.size) (wc' ad ++ tw ad)) (va_A (wc ++ tail) H.size)) (va_A (wc ++ tail) H.size))
    (hP : va_P D vwCl (ws ++ tail) H) (hD : va_D A0 (ws ++ tail)) (hS : va_S A0 H0 H locs) (hA : ∀ q, H0.size ≤ q → A0 q) (ws' tw' : (Nat → Nat → Nat) → va_W) (n : Nat) (isC isR : List Nat) (hC : pick ws isC = wc.map some) (hC' : ∀ ad, pick (ws' ad) isC = (wc' ad).map some) (hR : ∀ ad, pick (ws' ad) isR = pick ws isR) (hl : ∀ ad, (ws' ad).length = n) (htw : tw' = tw) (hcov : (List.range n).all (fun k => isC.contains k || isR.contains k) = true) (hAd : ∀ ad, (wc' ad).map Prod.fst = wc.map Prod.fst)
    (kx : ∀ (E : String) (ce : Cell) (q9 : Addr) (H1 : Heap) (locs1 : List Loc) (ad : Nat → Nat → Nat), r9 = .error E → va_P D vwCl (ws' ad ++ tw' ad) H1 → va_D A0 (ws' ad ++ tw' ad) → va_S A0 H0 H1 locs1 → H1[q9]? = some ce → ce.vm = .none → s.vm.findClass E = some ce.cls → vx_W p l e R s m args below meth c H1 locs1 (cells + mc) (slots + ms) Q (F0 m pc ls rest) q9)
    (kk : ∀ (r : Int32) (H1 : Heap) (locs1 : List Loc) (ad : Nat → Nat → Nat), r9 = .ok r → va_P D vwCl (ws' ad ++ tw' ad) H1 → va_D A0 (ws' ad ++ tw' ad) → va_S A0 H0 H1 locs1 → W p l e R s m args below meth c H1 locs1 (cells + mc) (slots + ms) Q (F0 m (pc + 3) ls (.int r :: rest))) : W p l e R s m args below meth c H locs cells slots Q (F0 m pc ls st0) := by
  subst htw
  have hF := va_freePP hD hS hA hC
  refine vx_calli hr hS (fun q _ h => hF q h) hF (fun q _ h => hF q h) (fun E ce q9 ad t H1 locs1 ht hvm _ hB hz hk hS1 h1 h2 h3 => ?_) (fun r2 ad t H1 locs1 ht hvm hw hB hz hk hS1 => ?_)
  · obtain ⟨hw, hB1, hB2⟩ := hB
    rw [ht] at hB1
    exact kx E ce q9 H1 locs1 ad hw (jnP_P hP hD hC (hC' ad) (hR ad) (hl ad) hcov hk hB1) (jnP_D hP hD hC (hC' ad) (hR ad) (hl ad) hcov (hAd ad) hF hB2) hS1 h1 h2 h3
  · obtain ⟨hB1, hB2⟩ := hB
    rw [ht] at hB1
    exact kk r2 H1 locs1 ad hw (jnP_P hP hD hC (hC' ad) (hR ad) (hl ad) hcov hk hB1) (jnP_D hP hD hC (hC' ad) (hR ad) (hl ad) hcov (hAd ad) hF hB2) hS1
end GH
theorem gSX {y0 : MethodName} {c0 : ByteArray} {n0 : Nat} {r0 : Option FieldType} {own : String} {idx : Nat} {y : MethodName} {c : ByteArray} {n : Nat} {r : Option FieldType} {hh : List (Nat × Nat × Nat × Nat)} (h1 : Cond.methodLink own idx y ∈ wBIG) (h2 : Cond.static y ∈ wBIG) (h4 : Cond.initialized y.cls ∈ wBIG) (h5 : Cond.codeWith y c n r hh ∈ wBIG) : GoodIn (wz y0 c0 n0 r0) (va_wsS own idx y (wzh y c n r hh)) := by
  refine gW1 fun w hw => ?_
  simp only [va_wsS, wzh, List.mem_append, List.mem_cons, List.not_mem_nil, or_false] at hw
  rcases hw with (rfl | rfl | rfl) | rfl | hw
  · exact h1
  · exact h2
  · exact h4
  · exact h5
  · exact hw
/-- the length of a new row -/
def ga {α : Type} (v : Int32) (n : Nat) (t : Option α) : Option α := if ¬ v < 0 ∧ v.toNatClampNeg ≤ n then t else none
theorem ob_a {α : Type} {v : Int32} {n : Nat} {t : Option α} {r : α} (h : ga v n t = some r) : (¬ v < 0 ∧ v.toNatClampNeg ≤ n) ∧ t = some r := by
  unfold ga at h
  split at h
  · exact ⟨by assumption, h⟩
  · cases h
theorem mx_no {ε α β : Type} {x : Except ε α} {g : α → Option β} {r : β} {E : ε} (h : mx x (fun _ => none) g = some r) (hx : x = .error E) : False := by
  subst hx
  simp [mx] at h
theorem mx_of {ε α β : Type} {x : Except ε α} {f : ε → β} {g : α → β} {r : β} {v : α} (h : mx x f g = r) (hx : x = .ok v) : g v = r := by
  subst hx
  exact h
theorem p3m {α : Type} (A B C : List α) : ((A ++ B) ++ C).Perm ((A ++ C) ++ B) := by
  rw [List.append_assoc, List.append_assoc]
  exact List.Perm.append_left A List.perm_append_comm
theorem dropP {D : va_G} {A : va_W} {x : Nat × va_E} {B : va_W} {H : Heap} (h : va_P D vwCl ((A ++ [x]) ++ B) H) : va_P D vwCl (A ++ B) H := va_P_iff.mpr fun q hq => va_P_iff.mp h q (by
  rcases List.mem_append.mp hq with h1 | h1
  · exact List.mem_append_left _ (List.mem_append_left _ h1)
  · exact List.mem_append_right _ h1)
theorem dropP0 {D : va_G} {A : va_W} {x : Nat × va_E} {H : Heap} (h : va_P D vwCl (A ++ [x]) H) : va_P D vwCl A H := va_P_iff.mpr fun q hq => va_P_iff.mp h q (List.mem_append_left _ hq)
theorem dropD {A0 : Nat → Prop} {A : va_W} {x : Nat × va_E} {B : va_W} (h : va_D A0 ((A ++ [x]) ++ B)) : va_D A0 (A ++ B) := by
  have h1 := va_D_iff.mp (va_D_perm h (p3m A [x] B))
  refine va_D_iff.mpr ⟨?_, fun q hq => h1.2 q (List.mem_append_left _ hq)⟩
  have h2 := h1.1
  rw [List.map_append] at h2
  exact (List.nodup_append.mp h2).1
section LM
variable {p : Program} {l : Launch} {e : Env} {R : Room} {s : State} {m : MethodId} {args : Array Value} {below : List Frame} {meth : Method} {c : Code} {H : Heap} {locs : List Loc} {cells slots : Nat} {Q : State → Prop}
variable {pc : Nat} {ls : Array Slot} {rest st0 : List Value} {a : Array Value}
theorem vx_noX {mc ms : Nat} {g : JFrame} {Qa : State → Outcome → State → Prop} {free : Addr → Prop} (h : vx_Run p l e R s m args below meth c H locs cells slots mc ms g rest Qa (fun _ _ _ => False) free) : va_Run p l e R s m args below meth c H locs cells slots mc ms g rest Qa free := by
  intro T hT X
  rcases h T hT X with h | ⟨q, st₀, t, T', L, E, ce, h0, h1, h2, h3, h4, h5, h6⟩
  · exact h
  · exact h5.elim
theorem rwp_calli {r : Int32} {mc ms : Nat} {A0 : Addr → Prop} {H0 : Heap} {D : va_G} {ws wc tail : va_W} {wc' tw : (Nat → Nat → Nat) → va_W} (hr : va_Run p l e R s m args below meth c H locs cells slots mc ms (F0 m pc ls st0) rest (va_Qi (fun (r2 : Int32) (_ : Nat → Nat → Nat) => r2 = r) (fun ad t => va_P D vwCl (wc' ad ++ tw ad) t.heap ∧ va_D (va_A (wc ++ tail) H.size) (wc' ad ++ tw ad)) (va_A (wc ++ tail) H.size) a) (va_A (wc ++ tail) H.size))
    (hP : va_P D vwCl (ws ++ tail) H) (hD : va_D A0 (ws ++ tail)) (hS : va_S A0 H0 H locs) (hA : ∀ q, H0.size ≤ q → A0 q) (ws' tw' : (Nat → Nat → Nat) → va_W) (n : Nat) (isC isR : List Nat) (hC : pick ws isC = wc.map some) (hC' : ∀ ad, pick (ws' ad) isC = (wc' ad).map some) (hR : ∀ ad, pick (ws' ad) isR = pick ws isR) (hl : ∀ ad, (ws' ad).length = n) (htw : tw' = tw) (hcov : (List.range n).all (fun k => isC.contains k || isR.contains k) = true) (hAd : ∀ ad, (wc' ad).map Prod.fst = wc.map Prod.fst)
    (kk : ∀ (H1 : Heap) (locs1 : List Loc) (ad : Nat → Nat → Nat), va_P D vwCl (ws' ad ++ tw' ad) H1 → va_D A0 (ws' ad ++ tw' ad) → va_S A0 H0 H1 locs1 → W p l e R s m args below meth c H1 locs1 (cells + mc) (slots + ms) Q (F0 m (pc + 3) ls (.int r :: rest))) : W p l e R s m args below meth c H locs cells slots Q (F0 m pc ls st0) := by
  subst htw
  have hF := va_freePP hD hS hA hC
  refine va_calli hr hS (fun q _ h => hF q h) hF (fun r2 ad t H1 locs1 ht hvm hw hB hz hk hS1 => ?_)
  subst hw
  obtain ⟨hB1, hB2⟩ := hB
  rw [ht] at hB1
  exact kk H1 locs1 ad (jnP_P hP hD hC (hC' ad) (hR ad) (hl ad) hcov hk hB1) (jnP_D hP hD hC (hC' ad) (hR ad) (hl ad) hcov (hAd ad) hF hB2) hS1
theorem rwtx_calli {r9 : Except String Int32} {mc ms : Nat} {A0 : Addr → Prop} {H0 : Heap} {D : va_G} {ws wc wc' tail : va_W} (hr : vx_Run p l e R s m args below meth c H locs cells slots mc ms (F0 m pc ls st0) rest (va_Qi (fun (r2 : Int32) (_ : Unit) => r9 = .ok r2) (fun _ t => va_P D vwCl wc' t.heap) (va_A wc H.size) a) (vx_X (fun (_ : Unit) => True) (fun E _ t => r9 = .error E ∧ va_P D vwCl wc' t.heap) (va_A wc H.size)) (va_A wc H.size))
    (hP : va_P D vwCl (ws ++ tail) H) (hD : va_D A0 (ws ++ tail)) (hS : va_S A0 H0 H locs) (hA : ∀ q, H0.size ≤ q → A0 q) (ws' : va_W) (n : Nat) (isC isR : List Nat) (hC : pick ws isC = wc.map some) (hC' : pick ws' isC = wc'.map some) (hR : pick ws' isR = pick ws isR) (hl : ws'.length = n) (hl0 : ws.length = n) (hcov : (List.range n).all (fun k => isC.contains k || isR.contains k) = true) (hAd : wc'.map Prod.fst = wc.map Prod.fst)
    (kx : ∀ E : String, r9 = .error E → False)
    (kk : ∀ (r : Int32) (H1 : Heap) (locs1 : List Loc), r9 = .ok r → va_P D vwCl (ws' ++ tail) H1 → va_D A0 (ws' ++ tail) → va_S A0 H0 H1 locs1 → W p l e R s m args below meth c H1 locs1 (cells + mc) (slots + ms) Q (F0 m (pc + 3) ls (.int r :: rest))) : W p l e R s m args below meth c H locs cells slots Q (F0 m pc ls st0) := by
  have hd := va_D_iff.mp hD
  rw [List.map_append, List.nodup_append] at hd
  have hDl : va_D A0 ws := va_D_iff.mpr ⟨hd.1.1, fun q hq => hd.2 q (List.mem_append_left _ hq)⟩
  have hF := va_free hDl hS hA isC (pick_map hC)
  refine vx_calli hr hS (fun q _ h => hF q h) hF (fun q _ h => hF q h) (fun E ce q9 u t H1 locs1 ht hvm _ hB hz hk hS1 h1 h2 h3 => (kx E hB.1).elim) (fun r2 u t H1 locs1 ht hvm hw hB hz hk hS1 => ?_)
  rw [ht] at hB
  have hmap : ws'.map Prod.fst = ws.map Prod.fst := jn_addr hC hC' hR hl hl0 hcov hAd
  exact kk r2 H1 locs1 hw (jnT_P hP hD hC hC' hR hl hcov hk hB) (va_D_addr hD (by rw [List.map_append, List.map_append, hmap])) hS1
theorem rwtx_calll {r9 : Except String Int64} {mc ms : Nat} {A0 : Addr → Prop} {H0 : Heap} {D : va_G} {ws wc wc' tail : va_W} (hr : vx_Run p l e R s m args below meth c H locs cells slots mc ms (F0 m pc ls st0) rest (va_Ql (fun (r2 : Int64) (_ : Unit) => r9 = .ok r2) (fun _ t => va_P D vwCl wc' t.heap) (va_A wc H.size) a) (vx_X (fun (_ : Unit) => True) (fun E _ t => r9 = .error E ∧ va_P D vwCl wc' t.heap) (va_A wc H.size)) (va_A wc H.size))
    (hP : va_P D vwCl (ws ++ tail) H) (hD : va_D A0 (ws ++ tail)) (hS : va_S A0 H0 H locs) (hA : ∀ q, H0.size ≤ q → A0 q) (ws' : va_W) (n : Nat) (isC isR : List Nat) (hC : pick ws isC = wc.map some) (hC' : pick ws' isC = wc'.map some) (hR : pick ws' isR = pick ws isR) (hl : ws'.length = n) (hl0 : ws.length = n) (hcov : (List.range n).all (fun k => isC.contains k || isR.contains k) = true) (hAd : wc'.map Prod.fst = wc.map Prod.fst)
    (kx : ∀ E : String, r9 = .error E → False)
    (kk : ∀ (r : Int64) (H1 : Heap) (locs1 : List Loc), r9 = .ok r → va_P D vwCl (ws' ++ tail) H1 → va_D A0 (ws' ++ tail) → va_S A0 H0 H1 locs1 → W p l e R s m args below meth c H1 locs1 (cells + mc) (slots + ms) Q (F0 m (pc + 3) ls (.long r :: rest))) : W p l e R s m args below meth c H locs cells slots Q (F0 m pc ls st0) := by
  have hd := va_D_iff.mp hD
  rw [List.map_append, List.nodup_append] at hd
  have hDl : va_D A0 ws := va_D_iff.mpr ⟨hd.1.1, fun q hq => hd.2 q (List.mem_append_left _ hq)⟩
  have hF := va_free hDl hS hA isC (pick_map hC)
  refine vx_calll hr hS (fun q _ h => hF q h) hF (fun q _ h => hF q h) (fun E ce q9 u t H1 locs1 ht hvm _ hB hz hk hS1 h1 h2 h3 => (kx E hB.1).elim) (fun r2 u t H1 locs1 ht hvm hw hB hz hk hS1 => ?_)
  rw [ht] at hB
  have hmap : ws'.map Prod.fst = ws.map Prod.fst := jn_addr hC hC' hR hl hl0 hcov hAd
  exact kk r2 H1 locs1 hw (jnT_P hP hD hC hC' hR hl hcov hk hB) (va_D_addr hD (by rw [List.map_append, List.map_append, hmap])) hS1
end LM
