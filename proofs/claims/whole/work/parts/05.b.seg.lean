/-! ===== BEGIN worlds by segments ===== -/
theorem pm_P {D : va_G} {cl : List vw_C} {ws : va_W} {H : Heap} : va_P D cl ws H ↔ ∀ q ∈ ws, va_at D cl q H := by
  constructor
  · intro h q hq
    obtain ⟨k, hk⟩ := List.getElem?_of_mem hq
    exact h k q hk
  · intro h k q hk
    exact h q (List.mem_of_getElem? hk)
theorem pm_D {A : Nat → Prop} {ws : va_W} : va_D A ws ↔ (ws.map (fun q => q.1)).Nodup ∧ ∀ q ∈ ws, A q.1 := by
  constructor
  · intro h
    refine ⟨?_, fun q hq => ?_⟩
    · rw [List.nodup_iff_pairwise_ne, List.pairwise_iff_getElem]
      intro i j hi hj hij heq
      rw [List.length_map] at hi hj
      have hi2 : ws[i]? = some ws[i] := List.getElem?_eq_getElem hi
      have hj2 : ws[j]? = some ws[j] := List.getElem?_eq_getElem hj
      have := h.1 i j _ _ hi2 hj2 (by simpa using heq)
      omega
    · obtain ⟨k, hk⟩ := List.getElem?_of_mem hq
      exact h.2 k q hk
  · intro h
    refine ⟨fun i j x y hx hy hxy => ?_, fun k q hk => h.2 q (List.mem_of_getElem? hk)⟩
    have h1 := h.1
    rw [List.nodup_iff_pairwise_ne, List.pairwise_iff_getElem] at h1
    obtain ⟨hi, hi2⟩ := List.getElem?_eq_some_iff.mp hx
    obtain ⟨hj, hj2⟩ := List.getElem?_eq_some_iff.mp hy
    rcases Nat.lt_trichotomy i j with q | q | q
    · refine absurd ?_ (h1 i j (by rw [List.length_map]; exact hi) (by rw [List.length_map]; exact hj) q)
      rw [List.getElem_map, List.getElem_map, hi2, hj2]
      exact hxy
    · exact q
    · refine absurd ?_ (h1 j i (by rw [List.length_map]; exact hj) (by rw [List.length_map]; exact hi) q)
      rw [List.getElem_map, List.getElem_map, hi2, hj2]
      exact hxy.symm
theorem pr_P {D : va_G} {cl : List vw_C} {ws ws' : va_W} {H : Heap} (hp : ws.Perm ws') (h : va_P D cl ws H) : va_P D cl ws' H := pm_P.mpr (fun q hq => pm_P.mp h q (hp.mem_iff.mpr hq))
theorem pr_D {A : Nat → Prop} {ws ws' : va_W} (hp : ws.Perm ws') (h : va_D A ws) : va_D A ws' := pm_D.mpr ⟨(hp.map _).nodup (pm_D.mp h).1, fun q hq => (pm_D.mp h).2 q (hp.mem_iff.mpr hq)⟩
theorem sg_perm {sg : List va_W} {is : List Nat} {n : Nat} (hn : sg.length = n) (hp : is.isPerm (List.range n) = true) : (is.map (fun i => sg.getD i [])).Perm sg := by
  have h1 : (is.map (fun i => sg.getD i [])).Perm ((List.range n).map (fun i => sg.getD i [])) := (List.isPerm_iff.mp hp).map _
  have h2 : (List.range n).map (fun i => sg.getD i []) = sg := by
    refine List.ext_getElem (by simp [hn]) (fun i h1 h2 => ?_)
    simp [List.getD_eq_getElem?_getD, List.getElem?_eq_getElem h2]
  rw [h2] at h1
  exact h1
/-- behind a call, by what is the callee's and what is not -/
theorem gj_ {A : Nat → Prop} {D : va_G} {cl : List vw_C} {ws wc wr w1 : va_W} {H H1 : Heap} (hp : ws.Perm (wc ++ wr)) (hP : va_P D cl ws H) (hD : va_D A ws)
    (hk : ∀ q : Nat, q < H.size → ¬ va_A wc H.size q → H1[q]? = H[q]?) (hF : ∀ q, va_A wc H.size q → A q) (hP1 : va_P D cl w1 H1) (hD1 : va_D (va_A wc H.size) w1) : va_P D cl (wr ++ w1) H1 ∧ va_D A (wr ++ w1) := by
  have hP' := pm_P.mp (pr_P hp hP)
  have hD' := pm_D.mp (pr_D hp hD)
  have hP1' := pm_P.mp hP1
  have hD1' := pm_D.mp hD1
  rw [List.map_append, List.nodup_append] at hD'
  obtain ⟨⟨n1, n2, n3⟩, hA⟩ := hD'
  have apart : ∀ q ∈ wr, q.1 < H.size ∧ ¬ va_A wc H.size q.1 := by
    intro q hq
    have hl := (hP' q (List.mem_append_right _ hq)).lt
    refine ⟨hl, fun h => ?_⟩
    rcases h with ⟨k, e, h⟩ | h
    · exact n3 q.1 (List.mem_map.mpr ⟨(q.1, e), List.mem_of_getElem? h, rfl⟩) q.1 (List.mem_map.mpr ⟨q, hq, rfl⟩) rfl
    · omega
  refine ⟨pm_P.mpr (fun q hq => ?_), pm_D.mpr ⟨?_, fun q hq => ?_⟩⟩
  · rcases List.mem_append.mp hq with h | h
    · exact (hP' q (List.mem_append_right _ h)).kept (hk q.1 (apart q h).1 (apart q h).2)
    · exact hP1' q h
  · rw [List.map_append, List.nodup_append]
    refine ⟨n2, hD1'.1, fun a ha b hb hab => ?_⟩
    obtain ⟨x, hx, rfl⟩ := List.mem_map.mp ha
    obtain ⟨y, hy, rfl⟩ := List.mem_map.mp hb
    exact (apart x hx).2 (by rw [hab]; exact hD1'.2 y hy)
  · rcases List.mem_append.mp hq with h | h
    · exact hA q (List.mem_append_right _ h)
    · exact hF q.1 (hD1'.2 q h)
theorem gf_ {A : Nat → Prop} {ws wc wr : va_W} {H0 H : Heap} {locs : List Loc} (hp : ws.Perm (wc ++ wr)) (hD : va_D A ws) (hS : va_S A H0 H locs) (hA : ∀ q : Nat, H0.size ≤ q → A q) : ∀ q, va_A wc H.size q → A q := by
  intro q h
  rcases h with ⟨k, e, h⟩ | h
  · exact (pm_D.mp (pr_D hp hD)).2 (q, e) (List.mem_append_left _ (List.mem_of_getElem? h))
  · exact hA q (Nat.le_trans hS.1 h)
theorem sp_ {sg : List va_W} {isC isR : List Nat} {n : Nat} {wc : va_W} (hn : sg.length = n) (hp : (isC ++ isR).isPerm (List.range n) = true) (hC : (isC.map (fun i => sg.getD i [])).flatten = wc) : sg.flatten.Perm (wc ++ (isR.map (fun i => sg.getD i [])).flatten) := by
  have h := (sg_perm hn hp).flatten
  rw [List.map_append, List.flatten_append, hC] at h
  exact h.symm
section CAG
variable {p : Program} {l : Launch} {e : Env} {R : Room} {s : State} {m : MethodId} {args : Array Value} {below : List Frame} {meth : Method} {c : Code} {H : Heap} {locs : List Loc} {Q : State → Prop}
variable {pc : Nat} {ls : Array Slot} {rest st0 : List Value} {a : Array Value} {D : va_G} {K : Nat → ClassId} {A : Nat → Prop} {sg s1 sn : List va_W} {wc w1 : va_W} {n n2 : Nat}
theorem yp_S {As : List Value} (hX : va_K D vwCl (ty_ K) s ∧ (∀ q : Nat, s.heap.size ≤ q → A q) ∧ ST_ K A s s.heap) (hP : va_P D vwCl sg.flatten H) (hD : va_D A sg.flatten) (hS : va_S A s.heap H locs) (isC isR : List Nat) (hn : sg.length = n) (hp : (isC ++ isR).isPerm (List.range n) = true) (hC : (isC.map (fun i => sg.getD i [])).flatten = wc) :
    PreS s H (va_Pc As (Bp_ D K wc H.size)) As := by
  have hpp := sp_ hn hp hC
  have hPc : va_P D vwCl wc H := pm_P.mpr (fun q hq => pm_P.mp (pr_P hpp hP) q (List.mem_append_left _ hq))
  have hDc : va_D A wc := by
    have h := pm_D.mp (pr_D hpp hD)
    rw [List.map_append, List.nodup_append] at h
    exact pm_D.mpr ⟨h.1.1, fun q hq => h.2 q (List.mem_append_left _ hq)⟩
  obtain ⟨hK, hA, hT⟩ := hX
  have hFc := gf_ hpp hD hS hA
  refine ⟨fun a U g mk h => ?_, fun U hU hW => ⟨rfl, by rw [hU], by rw [hU]; exact hPc, va_K.moved hW.alike hK, hDc.weaken (fun _ _ _ _ => trivial), hT.go hW hU hS hFc⟩⟩
  obtain ⟨h0, h1, h2, h3, h4, h5⟩ := h
  exact ⟨h0, h1, h2, va_K.moved (u := U) (U := U.calling g mk a) (Vm.Alike.refl U.vm) h3, h4, ST_.same (u := U) rfl rfl h5⟩
theorem yp_V {C : String} {b : Nat} {As : List Value} (hX : va_K D vwCl (ty_ K) s ∧ (∀ q : Nat, s.heap.size ≤ q → A q) ∧ ST_ K A s s.heap) (hP : va_P D vwCl sg.flatten H) (hD : va_D A sg.flatten) (hS : va_S A s.heap H locs) (isC isR : List Nat) (hn : sg.length = n) (hp : (isC ++ isR).isPerm (List.range n) = true) (hC : (isC.map (fun i => sg.getD i [])).flatten = wc) (ci q0 : Nat) {fs : List Value} {q : vw_C} (hc : vwCl[ci]? = some q) (he : wc[q0]? = some (b, .inr (ci, fs))) (hq : q.1 = C) :
    PreV s H C b (va_Pc (.ref b :: As) (Bp_ D K wc H.size)) As := by
  have h := yp_S (As := .ref b :: As) hX hP hD hS isC isR hn hp hC
  have hpp := sp_ hn hp hC
  have hPc : va_P D vwCl wc H := pm_P.mpr (fun q hq => pm_P.mp (pr_P hpp hP) q (List.mem_append_left _ hq))
  exact ⟨h.1, by rw [← hq]; exact va_recv hX.1 hPc hc he, h.2⟩
theorem xg_i {res : Int32} (hP : va_P D vwCl sg.flatten H) (hD : va_D A sg.flatten) (hS : va_S A s.heap H locs) (hA : ∀ q : Nat, s.heap.size ≤ q → A q) (isC isR isN : List Nat) (hn : sg.length = n) (hp : (isC ++ isR).isPerm (List.range n) = true) (hC : (isC.map (fun i => sg.getD i [])).flatten = wc) (hw1 : s1.flatten = w1)
    (hn2 : (isR.map (fun i => sg.getD i []) ++ s1).length = n2) (hp2 : isN.isPerm (List.range n2) = true) (hN : isN.map (fun i => (isR.map (fun i => sg.getD i []) ++ s1).getD i []) = sn)
    (hr : va_Run p l e R s m args below meth c H locs 0 0 0 0 (F0 m pc ls st0) rest (va_Qi (fun z (_ : Unit) => z = res) (Bq_ D K (va_A wc H.size) w1) (va_A wc H.size) a) (va_A wc H.size))
    (kk : ∀ (H : Heap) (locs : List Loc), va_P D vwCl sn.flatten H → va_D A sn.flatten → va_S A s.heap H locs → W p l e R s m args below meth c H locs 0 0 Q (F0 m (pc + 3) ls (.int res :: rest))) : W p l e R s m args below meth c H locs 0 0 Q (F0 m pc ls st0) := by
  have hpp := sp_ hn hp hC
  have hFc := gf_ hpp hD hS hA
  refine va_calli hr hS (fun q _ h => hFc q h) hFc (fun r_1 u t H1 locs1 ht hvm hw hB hz1 hk1 hS1 => ?_)
  obtain ⟨hP1, hK1, hD1⟩ := hB
  rw [ht] at hP1
  obtain ⟨hP2, hD2⟩ := gj_ hpp hP hD hk1 hFc hP1 hD1
  rw [← hw1, ← List.flatten_append] at hP2 hD2
  have h2 := (sg_perm hn2 hp2).flatten
  rw [hN] at h2
  rw [hw]
  exact kk H1 locs1 (pr_P h2.symm hP2) (pr_D h2.symm hD2) hS1
theorem xg_v (hP : va_P D vwCl sg.flatten H) (hD : va_D A sg.flatten) (hS : va_S A s.heap H locs) (hA : ∀ q : Nat, s.heap.size ≤ q → A q) (isC isR isN : List Nat) (hn : sg.length = n) (hp : (isC ++ isR).isPerm (List.range n) = true) (hC : (isC.map (fun i => sg.getD i [])).flatten = wc) (hw1 : s1.flatten = w1)
    (hn2 : (isR.map (fun i => sg.getD i []) ++ s1).length = n2) (hp2 : isN.isPerm (List.range n2) = true) (hN : isN.map (fun i => (isR.map (fun i => sg.getD i []) ++ s1).getD i []) = sn)
    (hr : va_Run p l e R s m args below meth c H locs 0 0 0 0 (F0 m pc ls st0) rest (va_Qv (fun (_ : Unit) => True) (Bq_ D K (va_A wc H.size) w1) (va_A wc H.size) a) (va_A wc H.size))
    (kk : ∀ (H : Heap) (locs : List Loc), va_P D vwCl sn.flatten H → va_D A sn.flatten → va_S A s.heap H locs → W p l e R s m args below meth c H locs 0 0 Q (F0 m (pc + 3) ls rest)) : W p l e R s m args below meth c H locs 0 0 Q (F0 m pc ls st0) := by
  have hpp := sp_ hn hp hC
  have hFc := gf_ hpp hD hS hA
  refine va_callv hr hS (fun q _ h => hFc q h) hFc (fun u t H1 locs1 ht hvm hw hB hz1 hk1 hS1 => ?_)
  obtain ⟨hP1, hK1, hD1⟩ := hB
  rw [ht] at hP1
  obtain ⟨hP2, hD2⟩ := gj_ hpp hP hD hk1 hFc hP1 hD1
  rw [← hw1, ← List.flatten_append] at hP2 hD2
  have h2 := (sg_perm hn2 hp2).flatten
  rw [hN] at h2
  exact kk H1 locs1 (pr_P h2.symm hP2) (pr_D h2.symm hD2) hS1
end CAG
/-- a row of n objects' cells -/
def gr_ (n : Nat) (f : Nat → va_W) : va_W := ((List.range n).map f).flatten
def gx_ (n j : Nat) (f : Nat → va_W) : va_W := (((List.range n).erase j).map f).flatten
theorem gr_perm {n j : Nat} {f : Nat → va_W} (hj : j < n) : (gr_ n f).Perm (f j ++ gx_ n j f) := by
  have h1 : (List.range n).Perm (j :: (List.range n).erase j) := List.perm_cons_erase (List.mem_range.mpr hj)
  have h2 := (h1.map f).flatten
  exact h2
theorem gx_up {n j : Nat} {f f' : Nat → va_W} (h : ∀ i, i ≠ j → f i = f' i) : gx_ n j f = gx_ n j f' := by
  unfold gx_
  congr 1
  refine List.map_congr_left (fun i hi => h i ?_)
  exact (List.nodup_range.mem_erase_iff.mp hi).1
theorem op_p {n j : Nat} {f : Nat → va_W} {pre post : List va_W} (hj : j < n) : (pre ++ gr_ n f :: post).flatten.Perm (pre ++ f j :: gx_ n j f :: post).flatten := by
  rw [List.flatten_append, List.flatten_append, List.flatten_cons, List.flatten_cons, List.flatten_cons, ← List.append_assoc (f j)]
  exact List.Perm.append_left _ ((gr_perm hj).append_right _)
theorem cl_p {n j : Nat} {f f' : Nat → va_W} {x : va_W} {pre post : List va_W} (hj : j < n) (hx : f' j = x) (hne : ∀ i, i ≠ j → f i = f' i) : (pre ++ x :: gx_ n j f :: post).flatten.Perm (pre ++ gr_ n f' :: post).flatten := by
  rw [gx_up hne, ← hx]
  exact (op_p hj).symm
/-! ===== END ===== -/
