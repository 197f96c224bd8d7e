/-! ===== BEGIN the law's own gapOf and targetOf, which catch ===== -/
theorem xm_ {l : Launch} {y : MethodName} {ws : List Cond} {rm : Room} {Pc : Array Value → State → Prop} {Qc : Array Value → State → Outcome → State → Prop} {mc ms : Nat} {free : Addr → Prop} (h : vx_Met l y ws rm Pc Qc (fun _ _ _ => False) mc ms free) : Met l y ws rm Pc Qc mc ms free := by
  intro p e h1 h2 h3 s m args below h4 h5 h6 h7
  obtain ⟨n, o, a1, a2, a3, a4⟩ := h p e h1 h2 h3 s m args below h4 h5 h6 h7
  rcases a4 with a4 | ⟨q, -, E, ce, L, hf, -⟩
  · exact ⟨n, o, a1, a2, a3, a4⟩
  · exact hf.elim
def Mj_ (l : Launch) (y : MethodName) (ws : List Cond) (rm : Room) (D : va_G) (K : Nat → ClassId) (avs : List Value) (wc w1 : va_W) (r : Int32) (mc ms : Nat) : Prop :=
  ∀ sz : Nat, Met l y ws rm (va_Pc avs (BpX D K wc sz)) (va_Qi (fun z (_ : Unit) => z = r) (Bq_ D K (va_A wc sz) w1) (va_A wc sz)) mc ms (va_A wc sz)
section ENJ
variable {l : Launch} {y : MethodName} {ws ws' : List Cond} {rm : Room} {D : va_G} {K : Nat → ClassId} {avs : List Value} {wc w1 : va_W} {cc : ByteArray} {maxL : Nat}
theorem en_j {r : Int32} {own : String} {hh : List (Nat × Nat × Nat × Nat)} {mc ms : Nat} (hy : plainName y.cls = true) (hw : ws = Cond.codeWith y cc maxL (some .int) hh :: ws') (ho : y.cls = own) (hz : (lg_sl avs).length ≤ maxL)
    (body : ∀ (p : Program) (e : Env) (s : State) (m : MethodId) (args : Array Value) (below : List Frame) (meth : Method) (c : Code) (A : Nat → Prop) (Q : State → Prop) (H : Heap) (locs : List Loc) (ls : Array Slot),
      cx_ p s m args c cc maxL own ws D K A → TX_ s → c.exceptionTable.toList = tableOf hh → va_P D vwCl wc H → va_D A wc → va_S A s.heap H locs → lv_has ls maxL (lv_args 0 avs) →
      (∀ (pc : Nat) (H : Heap) (locs : List Loc) (ls : Array Slot), decode cc pc = .ok (.ireturn, 1) → va_P D vwCl w1 H → va_D A w1 → va_S A s.heap H locs → W p l e rm s m args below meth c H locs mc ms Q (F0 m pc ls [.int r])) →
      W p l e rm s m args below meth c H locs 0 0 Q (F0 m 0 ls [])) : Mj_ l y ws rm D K avs wc w1 r mc ms := by
  intro sz
  refine xm_ (vx_ofWH (cc := cc) (maxL := maxL) (ret := some .int) (hh := hh) hy hw ?_)
  intro p e s m args below meth c s₁ B hml hv
  obtain ⟨rfl, ⟨hsz, hP, hK, hD0, hT⟩, hX⟩ := hv
  have hx := B.exec
  have hb := B.bytes
  have hr := B.returns
  have hts := atoms_spec (ws := ws) B.pre
  have hown : s.vm.findClass own = some m.cls := ho ▸ findClass_of_methodNamed B.named
  have htab := vx_table (x := y) B (hts _ (by rw [hw]; exact List.mem_cons_self))
  subst hsz
  have hD := hD0.self (sz := s.heap.size)
  have hA : ∀ q : Nat, s.heap.size ≤ q → va_A wc s.heap.size q := fun q h => Or.inr h
  have hl := lv_entry avs (n := maxL) hz
  rw [lg_entry_eq]
  refine body p e s m avs.toArray below meth c (va_A wc s.heap.size) _ s.heap [] _ ⟨⟨hx, hb, hml, hown, hts⟩, hK, hA, hT⟩ hX htab hP hD va_S.rf hl ?_
  intro pc H locs ls hd hP1 hD1 hS1
  exact vx_ret (W.iret (v := r) hx hb hr (fun t ht hW => ⟨⟨r, (), rfl, rfl, by rw [ht]; exact hP1, va_K.moved hW.alike hK, hD1⟩, hS1.F ht⟩) hS1.2.2 hd)
end ENJ
section CLP
variable {p : Program} {l : Launch} {e : Env} {R : Room} {s : State} {m : MethodId} {args : Array Value} {below : List Frame} {meth : Method} {c : Code} {H : Heap} {locs : List Loc} {cells slots : Nat} {Q : State → Prop}
variable {pc : Nat} {ls : Array Slot} {rest st0 : List Value} {a : Array Value} {D : va_G} {K : Nat → ClassId} {A : Nat → Prop} {ws0 wc wr w1 wn : va_W}
/-- a call by what is the callee's and what is not -/
theorem xq_i {res : Int32} {mc ms : Nat} (hp : ws0.Perm (wc ++ wr)) (hn : (wr ++ w1).Perm wn) (hP : va_P D vwCl ws0 H) (hD : va_D A ws0) (hS : va_S A s.heap H locs) (hA : ∀ q : Nat, s.heap.size ≤ q → A q)
    (hr : va_Run p l e R s m args below meth c H locs cells slots mc ms (F0 m pc ls st0) rest (va_Qi (fun z (_ : Unit) => z = res) (Bq_ D K (va_A wc H.size) w1) (va_A wc H.size) a) (va_A wc H.size))
    (kk : ∀ (H : Heap) (locs : List Loc), va_P D vwCl wn H → va_D A wn → va_S A s.heap H locs → W p l e R s m args below meth c H locs (cells + mc) (slots + ms) Q (F0 m (pc + 3) ls (.int res :: rest))) : W p l e R s m args below meth c H locs cells slots Q (F0 m pc ls st0) := by
  have hFc := gf_ hp hD hS hA
  refine va_calli hr hS (fun q _ h => hFc q h) hFc (fun r_1 u t H1 locs1 ht hvm hw hB hz1 hk1 hS1 => ?_)
  obtain ⟨hP1, hK1, hD1⟩ := hB
  rw [ht] at hP1
  obtain ⟨hP2, hD2⟩ := gj_ hp hP hD hk1 hFc hP1 hD1
  rw [hw]
  exact kk H1 locs1 (pr_P hn hP2) (pr_D hn hD2) hS1
theorem yq_V {C : String} {b : Nat} {As : List Value} (hX : va_K D vwCl (ty_ K) s ∧ (∀ q : Nat, s.heap.size ≤ q → A q) ∧ ST_ K A s s.heap) (hP : va_P D vwCl ws0 H) (hD : va_D A ws0) (hS : va_S A s.heap H locs) (hpp : ws0.Perm (wc ++ wr)) (ci q0 : Nat) {fs : List Value} {q : vw_C} (hc : vwCl[ci]? = some q) (he : wc[q0]? = some (b, .inr (ci, fs))) (hq : q.1 = C) :
    PreV s H C b (va_Pc (.ref b :: As) (Bp_ D K wc H.size)) As := by
  have h := yq_S (As := .ref b :: As) hX hP hD hS hpp
  have hPc : va_P D vwCl wc H := pm_P.mpr (fun q hq => pm_P.mp (pr_P hpp hP) q (List.mem_append_left _ hq))
  exact ⟨h.1, by rw [← hq]; exact va_recv hX.1 hPc hc he, h.2⟩
theorem yq_SX {As : List Value} (hT : TX_ s) (hX : va_K D vwCl (ty_ K) s ∧ (∀ q : Nat, s.heap.size ≤ q → A q) ∧ ST_ K A s s.heap) (hP : va_P D vwCl ws0 H) (hD : va_D A ws0) (hS : va_S A s.heap H locs) (hpp : ws0.Perm (wc ++ wr)) :
    PreS s H (va_Pc As (BpX D K wc H.size)) As := by
  have h := yq_S (As := As) hX hP hD hS hpp
  refine ⟨fun a U g mk q => ?_, fun U hU hW => ⟨rfl, (h.2 U hU hW).2, hT.warm hW⟩⟩
  obtain ⟨q0, q1, q2⟩ := q
  exact ⟨q0, (h.1 a U g mk ⟨q0, q1⟩).2, TX_.same (u := U) rfl q2⟩
theorem yq_VX {C : String} {b : Nat} {As : List Value} (hT : TX_ s) (hX : va_K D vwCl (ty_ K) s ∧ (∀ q : Nat, s.heap.size ≤ q → A q) ∧ ST_ K A s s.heap) (hP : va_P D vwCl ws0 H) (hD : va_D A ws0) (hS : va_S A s.heap H locs) (hpp : ws0.Perm (wc ++ wr)) (ci q0 : Nat) {fs : List Value} {q : vw_C} (hc : vwCl[ci]? = some q) (he : wc[q0]? = some (b, .inr (ci, fs))) (hq : q.1 = C) :
    PreV s H C b (va_Pc (.ref b :: As) (BpX D K wc H.size)) As := by
  have h := yq_SX (As := .ref b :: As) hT hX hP hD hS hpp
  have hPc : va_P D vwCl wc H := pm_P.mpr (fun q hq => pm_P.mp (pr_P hpp hP) q (List.mem_append_left _ hq))
  exact ⟨h.1, by rw [← hq]; exact va_recv hX.1 hPc hc he, h.2⟩
end CLP
abbrev rmL_ : Room := { frames := 40, cells := 1, slots := 6, locals := 1000 }
abbrev oU (K : Nat → ClassId) (o : Nat) (f : Nat → Int64) : Nat × va_E := (o, .inl (K 1, 1, .inr (.inl f)))
theorem pc_1 (c : Nat × va_E) (W : va_W) : (c :: W).Perm (W ++ [c]) := (List.perm_append_comm (l₁ := [c]) (l₂ := W))
set_option maxHeartbeats 4000000 in
set_option maxRecDepth 100000 in
theorem r_L_gapOf (l : Launch) (D : va_G) (K : Nat → ClassId) {hx o : Nat} {f : Nat → Int64} {Wc Wc2 : va_W} {x1 x2 v : Int32} {fs : List Value} (hM : Mi_ l yX10_gapOf wsX10_gapOf rmX10_gapOf D K [.ref hx, .int x1, .int x2] Wc Wc2 v) (he : Wc[0]? = some (hx, .inr (9, fs))) :
    Mj_ l yL_gapOf wsL_gapOf rmL_ D K [.ref hx, .int x1, .int x2, .ref o] (oU K o f :: Wc) (oU K o (vp_updL f 0 v.toInt64) :: Wc2) 0 1 6 := by
  refine en_j (cc := cL_gapOf) (maxL := 5) (own := RL) (hh := [(0, 10, 13, 13)]) (by decide) rfl rfl (Nat.le_of_ble_eq_true rfl) ?_
  intro p e s m args below meth c A Q H locs ls C0 hTX htab hP hD hS hl HR
  obtain ⟨⟨hx1, hb, hml, hown, hts⟩, hK, -⟩ := id C0
  have hl : lv_has ls 5 [(0, .ref hx), (1, .int x1), (2, .int x2), (3, .ref o)] := hl
  refine lv_aload_n hx1 hb dL_gapOf_0 rfl (lv_at hl 3 rfl) ?_
  refine lv_iconst (v := 0) hx1 hb dL_gapOf_1 (by decide) ?_
  refine lv_aload_n hx1 hb dL_gapOf_2 rfl (lv_at hl 0 rfl) ?_
  refine lv_iload_n hx1 hb dL_gapOf_3 rfl (lv_at hl 1 rfl) ?_
  refine lv_iload_n hx1 hb dL_gapOf_4 rfl (lv_at hl 2 rfl) ?_
  refine xq_i (wc := Wc) (wr := [oU K o f]) (w1 := Wc2) (wn := oU K o f :: Wc2) (pc_1 _ _) (List.Perm.refl _) hP hD hS C0.2.2.1 (va_runV (As := [.int x1, .int x2]) (rest := [.int 0, .ref o]) C0.1 (hM H.size) (cwV 2 hts gL_gapOf_X10_gapOf rfl rfl rfl (by decide +kernel) ⟨Nat.le_of_ble_eq_true rfl, Nat.le_of_ble_eq_true rfl⟩) (yq_V C0.2 hP hD hS (pc_1 _ _) 9 0 rfl he rfl) rfl rfl hl.1 rfl (lv_room (Nat.le_of_ble_eq_true rfl)) dL_gapOf_5 ⟨Nat.le_of_ble_eq_true rfl, Nat.le_of_ble_eq_true rfl⟩) (fun H locs hP hD hS => ?_)
  refine lv_i2l hx1 hb dL_gapOf_8 rfl ?_
  refine xs_l (f := f) (k := 0) hx1 hb hK hP hD hS 0 1 rfl rfl rfl (in_v (by decide)) dL_gapOf_9 (fun H locs hP hD hS => ?_)
  refine lv_goto (tgt := 17) hx1 hb dL_gapOf_10 (by decide) ?_
  refine lv_iconst (v := 0) hx1 hb dL_gapOf_17 (by decide) ?_
  refine W.widen (k := 1) (n := 6) (Nat.le_of_ble_eq_true rfl) (Nat.le_of_ble_eq_true rfl) ?_
  exact HR 18 H locs ls dL_gapOf_18 hP hD hS
set_option maxHeartbeats 4000000 in
set_option maxRecDepth 100000 in
theorem x_L_gapOf (l : Launch) (D : va_G) (K : Nat → ClassId) {hx o : Nat} {f : Nat → Int64} {Wc : va_W} {x1 x2 : Int32} {fs : List Value} (hM : Mx_ l yX10_gapOf wsX10_gapOf rtX10 D K [.ref hx, .int x1, .int x2] Wc) (he : Wc[0]? = some (hx, .inr (9, fs))) :
    Mj_ l yL_gapOf wsL_gapOf rmL_ D K [.ref hx, .int x1, .int x2, .ref o] (oU K o f :: Wc) (oU K o f :: Wc) 1 1 6 := by
  refine en_j (cc := cL_gapOf) (maxL := 5) (own := RL) (hh := [(0, 10, 13, 13)]) (by decide) rfl rfl (Nat.le_of_ble_eq_true rfl) ?_
  intro p e s m args below meth c A Q H locs ls C0 hTX htab hP hD hS hl HR
  obtain ⟨⟨hx1, hb, hml, hown, hts⟩, hK, hA, -⟩ := id C0
  have hl : lv_has ls 5 [(0, .ref hx), (1, .int x1), (2, .int x2), (3, .ref o)] := hl
  refine lv_aload_n hx1 hb dL_gapOf_0 rfl (lv_at hl 3 rfl) ?_
  refine lv_iconst (v := 0) hx1 hb dL_gapOf_1 (by decide) ?_
  refine lv_aload_n hx1 hb dL_gapOf_2 rfl (lv_at hl 0 rfl) ?_
  refine lv_iload_n hx1 hb dL_gapOf_3 rfl (lv_at hl 1 rfl) ?_
  refine lv_iload_n hx1 hb dL_gapOf_4 rfl (lv_at hl 2 rfl) ?_
  have hFc := gf_ (pc_1 (oU K o f) Wc) hD hS hA
  refine vx_calli (vx_runV (As := [.int x1, .int x2]) (rest := [.int 0, .ref o]) C0.1 (hM H.size) (cwV 2 hts gL_gapOf_X10_gapOf rfl rfl rfl (by decide +kernel) ⟨Nat.le_of_ble_eq_true rfl, Nat.le_of_ble_eq_true rfl⟩) (yq_VX hTX C0.2 hP hD hS (pc_1 _ _) 9 0 rfl he rfl) rfl rfl hl.1 rfl (lv_room (Nat.le_of_ble_eq_true rfl)) dL_gapOf_5 ⟨Nat.le_of_ble_eq_true rfl, Nat.le_of_ble_eq_true rfl⟩) hS (fun q _ h => hFc q h) hFc (fun q _ h => hFc q h) (fun E ce q9 u t H1 locs1 ht hvm hp hB hz1 hk1 hS1 hce hcv hcl => ?_) (fun r u t H1 locs1 ht hvm hp hB hz1 hk1 hS1 => hp.elim)
  obtain ⟨hE, hP1, hK1, hD1⟩ := hB
  subst hE
  rw [ht] at hP1
  obtain ⟨hP2, hD2⟩ := gj_ (pc_1 (oU K o f) Wc) hP hD hk1 hFc hP1 hD1
  refine vx_catch (own := RL) (name := "java/util/NoSuchElementException") hown [] ⟨0, 10, 13, 13⟩ [] htab (fun z h => nomatch h) (by decide) (by decide) (hts _ (List.mem_of_getElem? (i := 1) (by decide +kernel))) (va_Nw.use rfl hTX.2.2.2) hce hcv hcl ?_
  refine lv_astore (lv' := [(4, .ref q9), (0, .ref hx), (1, .int x1), (2, .int x2), (3, .ref o)]) hx1 hb dL_gapOf_13 hl (by decide) rfl (fun ls hl => ?_)
  refine lv_iconst (v := 1) hx1 hb dL_gapOf_15 (by decide) ?_
  exact HR 16 H1 locs1 ls dL_gapOf_16 hP2 hD2 hS1
theorem sim_L_gapOf (l : Launch) (hl0 : l.stackTraces = false) (D : va_G) {K : Nat → ClassId} {hx hm : Nat} {Wc Wr : va_W} (h : SIM K hx hm Wc Wr) (o : Nat) (f : Nat → Int64) (x1 x2 : Int32) :
    ∃ (k b : Int32) (f2 : Nat → Int64) (Wc2 Wr2 : va_W), Mj_ l yL_gapOf wsL_gapOf rmL_ D K [.ref hx, .int x1, .int x2, .ref o] (oU K o f :: Wc) (oU K o f2 :: Wc2) k 1 6 ∧ Mi_ l yX11_gapOf wsX11_gapOf rmX11_gapOf D K [.ref hm, .int x1, .int x2] Wr Wr2 b ∧ Mi_ l yX11_thrown wsX11_thrown rmX11_thrown D K [.ref hm] Wr2 Wr2 k ∧ SIM K hx hm Wc2 Wr2 ∧ (k = 0 → f2 0 = b.toInt64) := by
  obtain ⟨⟨fs, he⟩, -⟩ := SIM_hd h
  obtain ⟨Wr2, b, h1, ⟨Wc2, h2, h3, h4⟩ | ⟨h2, h3, h4⟩⟩ := sim_gapOf l hl0 D h x1 x2
  · exact ⟨0, b, _, Wc2, Wr2, r_L_gapOf l D K h2 he, h1, h3, h4, fun _ => rfl⟩
  · exact ⟨1, b, f, Wc, Wr2, x_L_gapOf l D K h2 he, h1, h3, h4, fun h => absurd h (by decide)⟩
set_option maxHeartbeats 4000000 in
set_option maxRecDepth 100000 in
theorem r_L_targetOf (l : Launch) (D : va_G) (K : Nat → ClassId) {hx o : Nat} {f : Nat → Int64} {Wc Wc2 : va_W} {x1 x2 v : Int32} {fs : List Value} (hM : Mi_ l yX10_targetOf wsX10_targetOf rmX10_targetOf D K [.ref hx, .int x1, .int x2] Wc Wc2 v) (he : Wc[0]? = some (hx, .inr (9, fs))) :
    Mj_ l yL_targetOf wsL_targetOf rmL_ D K [.ref hx, .int x1, .int x2, .ref o] (oU K o f :: Wc) (oU K o (vp_updL f 0 v.toInt64) :: Wc2) 0 1 6 := by
  refine en_j (cc := cL_targetOf) (maxL := 5) (own := RL) (hh := [(0, 10, 13, 13)]) (by decide) rfl rfl (Nat.le_of_ble_eq_true rfl) ?_
  intro p e s m args below meth c A Q H locs ls C0 hTX htab hP hD hS hl HR
  obtain ⟨⟨hx1, hb, hml, hown, hts⟩, hK, -⟩ := id C0
  have hl : lv_has ls 5 [(0, .ref hx), (1, .int x1), (2, .int x2), (3, .ref o)] := hl
  refine lv_aload_n hx1 hb dL_targetOf_0 rfl (lv_at hl 3 rfl) ?_
  refine lv_iconst (v := 0) hx1 hb dL_targetOf_1 (by decide) ?_
  refine lv_aload_n hx1 hb dL_targetOf_2 rfl (lv_at hl 0 rfl) ?_
  refine lv_iload_n hx1 hb dL_targetOf_3 rfl (lv_at hl 1 rfl) ?_
  refine lv_iload_n hx1 hb dL_targetOf_4 rfl (lv_at hl 2 rfl) ?_
  refine xq_i (wc := Wc) (wr := [oU K o f]) (w1 := Wc2) (wn := oU K o f :: Wc2) (pc_1 _ _) (List.Perm.refl _) hP hD hS C0.2.2.1 (va_runV (As := [.int x1, .int x2]) (rest := [.int 0, .ref o]) C0.1 (hM H.size) (cwV 2 hts gL_targetOf_X10_targetOf rfl rfl rfl (by decide +kernel) ⟨Nat.le_of_ble_eq_true rfl, Nat.le_of_ble_eq_true rfl⟩) (yq_V C0.2 hP hD hS (pc_1 _ _) 9 0 rfl he rfl) rfl rfl hl.1 rfl (lv_room (Nat.le_of_ble_eq_true rfl)) dL_targetOf_5 ⟨Nat.le_of_ble_eq_true rfl, Nat.le_of_ble_eq_true rfl⟩) (fun H locs hP hD hS => ?_)
  refine lv_i2l hx1 hb dL_targetOf_8 rfl ?_
  refine xs_l (f := f) (k := 0) hx1 hb hK hP hD hS 0 1 rfl rfl rfl (in_v (by decide)) dL_targetOf_9 (fun H locs hP hD hS => ?_)
  refine lv_goto (tgt := 17) hx1 hb dL_targetOf_10 (by decide) ?_
  refine lv_iconst (v := 0) hx1 hb dL_targetOf_17 (by decide) ?_
  refine W.widen (k := 1) (n := 6) (Nat.le_of_ble_eq_true rfl) (Nat.le_of_ble_eq_true rfl) ?_
  exact HR 18 H locs ls dL_targetOf_18 hP hD hS
set_option maxHeartbeats 4000000 in
set_option maxRecDepth 100000 in
theorem x_L_targetOf (l : Launch) (D : va_G) (K : Nat → ClassId) {hx o : Nat} {f : Nat → Int64} {Wc : va_W} {x1 x2 : Int32} {fs : List Value} (hM : Mx_ l yX10_targetOf wsX10_targetOf rtX10 D K [.ref hx, .int x1, .int x2] Wc) (he : Wc[0]? = some (hx, .inr (9, fs))) :
    Mj_ l yL_targetOf wsL_targetOf rmL_ D K [.ref hx, .int x1, .int x2, .ref o] (oU K o f :: Wc) (oU K o f :: Wc) 1 1 6 := by
  refine en_j (cc := cL_targetOf) (maxL := 5) (own := RL) (hh := [(0, 10, 13, 13)]) (by decide) rfl rfl (Nat.le_of_ble_eq_true rfl) ?_
  intro p e s m args below meth c A Q H locs ls C0 hTX htab hP hD hS hl HR
  obtain ⟨⟨hx1, hb, hml, hown, hts⟩, hK, hA, -⟩ := id C0
  have hl : lv_has ls 5 [(0, .ref hx), (1, .int x1), (2, .int x2), (3, .ref o)] := hl
  refine lv_aload_n hx1 hb dL_targetOf_0 rfl (lv_at hl 3 rfl) ?_
  refine lv_iconst (v := 0) hx1 hb dL_targetOf_1 (by decide) ?_
  refine lv_aload_n hx1 hb dL_targetOf_2 rfl (lv_at hl 0 rfl) ?_
  refine lv_iload_n hx1 hb dL_targetOf_3 rfl (lv_at hl 1 rfl) ?_
  refine lv_iload_n hx1 hb dL_targetOf_4 rfl (lv_at hl 2 rfl) ?_
  have hFc := gf_ (pc_1 (oU K o f) Wc) hD hS hA
  refine vx_calli (vx_runV (As := [.int x1, .int x2]) (rest := [.int 0, .ref o]) C0.1 (hM H.size) (cwV 2 hts gL_targetOf_X10_targetOf rfl rfl rfl (by decide +kernel) ⟨Nat.le_of_ble_eq_true rfl, Nat.le_of_ble_eq_true rfl⟩) (yq_VX hTX C0.2 hP hD hS (pc_1 _ _) 9 0 rfl he rfl) rfl rfl hl.1 rfl (lv_room (Nat.le_of_ble_eq_true rfl)) dL_targetOf_5 ⟨Nat.le_of_ble_eq_true rfl, Nat.le_of_ble_eq_true rfl⟩) hS (fun q _ h => hFc q h) hFc (fun q _ h => hFc q h) (fun E ce q9 u t H1 locs1 ht hvm hp hB hz1 hk1 hS1 hce hcv hcl => ?_) (fun r u t H1 locs1 ht hvm hp hB hz1 hk1 hS1 => hp.elim)
  obtain ⟨hE, hP1, hK1, hD1⟩ := hB
  subst hE
  rw [ht] at hP1
  obtain ⟨hP2, hD2⟩ := gj_ (pc_1 (oU K o f) Wc) hP hD hk1 hFc hP1 hD1
  refine vx_catch (own := RL) (name := "java/util/NoSuchElementException") hown [] ⟨0, 10, 13, 13⟩ [] htab (fun z h => nomatch h) (by decide) (by decide) (hts _ (List.mem_of_getElem? (i := 1) (by decide +kernel))) (va_Nw.use rfl hTX.2.2.2) hce hcv hcl ?_
  refine lv_astore (lv' := [(4, .ref q9), (0, .ref hx), (1, .int x1), (2, .int x2), (3, .ref o)]) hx1 hb dL_targetOf_13 hl (by decide) rfl (fun ls hl => ?_)
  refine lv_iconst (v := 1) hx1 hb dL_targetOf_15 (by decide) ?_
  exact HR 16 H1 locs1 ls dL_targetOf_16 hP2 hD2 hS1
theorem sim_L_targetOf (l : Launch) (hl0 : l.stackTraces = false) (D : va_G) {K : Nat → ClassId} {hx hm : Nat} {Wc Wr : va_W} (h : SIM K hx hm Wc Wr) (o : Nat) (f : Nat → Int64) (x1 x2 : Int32) :
    ∃ (k b : Int32) (f2 : Nat → Int64) (Wc2 Wr2 : va_W), Mj_ l yL_targetOf wsL_targetOf rmL_ D K [.ref hx, .int x1, .int x2, .ref o] (oU K o f :: Wc) (oU K o f2 :: Wc2) k 1 6 ∧ Mi_ l yX11_targetOf wsX11_targetOf rmX11_targetOf D K [.ref hm, .int x1, .int x2] Wr Wr2 b ∧ Mi_ l yX11_thrown wsX11_thrown rmX11_thrown D K [.ref hm] Wr2 Wr2 k ∧ SIM K hx hm Wc2 Wr2 ∧ (k = 0 → f2 0 = b.toInt64) := by
  obtain ⟨⟨fs, he⟩, -⟩ := SIM_hd h
  obtain ⟨Wr2, b, h1, ⟨Wc2, h2, h3, h4⟩ | ⟨h2, h3, h4⟩⟩ := sim_targetOf l hl0 D h x1 x2
  · exact ⟨0, b, _, Wc2, Wr2, r_L_targetOf l D K h2 he, h1, h3, h4, fun _ => rfl⟩
  · exact ⟨1, b, f, Wc, Wr2, x_L_targetOf l D K h2 he, h1, h3, h4, fun h => absurd h (by decide)⟩
/-! ===== END ===== -/
