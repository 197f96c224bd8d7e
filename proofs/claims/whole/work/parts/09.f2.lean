/-! ===== BEGIN gapOf and targetOf of the class, where they throw ===== -/
/-- what a throw reads of the tables beside the good words -/
def nx_l : List Cond := [.declares ⟨"java/lang/RuntimeException", "<init>", "()V"⟩, .declares ⟨"java/lang/Exception", "<init>", "()V"⟩, .declares ⟨"java/lang/Throwable", "<init>", "()V"⟩, .castable "java/util/NoSuchElementException" "java/util/NoSuchElementException"]
def TX_ (U : State) : Prop := va_Nw (.declares ⟨"java/lang/RuntimeException", "<init>", "()V"⟩) U ∧ va_Nw (.declares ⟨"java/lang/Exception", "<init>", "()V"⟩) U ∧ va_Nw (.declares ⟨"java/lang/Throwable", "<init>", "()V"⟩) U ∧ va_Nw (.castable "java/util/NoSuchElementException" "java/util/NoSuchElementException") U
theorem TX_.warm {s U : State} (hW : s.WarmedH U.vm) (h : TX_ s) : TX_ U := ⟨va_Nw.warmD hW h.1, va_Nw.warmD hW h.2.1, va_Nw.warmD hW h.2.2.1, va_Nw.warmC hW h.2.2.2⟩
theorem TX_.same {u U : State} (hv : u.vm = U.vm) (h : TX_ u) : TX_ U := ⟨va_Nw.same rfl hv h.1, va_Nw.same rfl hv h.2.1, va_Nw.same rfl hv h.2.2.1, va_Nw.same rfl hv h.2.2.2⟩
theorem TX_.all {args : Array Value} {s : State} (h : TX_ s) : ∀ w ∈ nx_l, w.before args s = true := vx_c (va_Nw.use (A := args) rfl h.1) (vx_c (va_Nw.use (A := args) rfl h.2.1) (vx_c (va_Nw.use (A := args) rfl h.2.2.1) (vx_c (va_Nw.use (A := args) rfl h.2.2.2) vx_n)))
def BpX (D : va_G) (K : Nat → ClassId) (wc : va_W) (sz : Nat) : State → Prop := fun U => Bp_ D K wc sz U ∧ TX_ U
def Mx_ (l : Launch) (y : MethodName) (ws : List Cond) (rm : Room) (D : va_G) (K : Nat → ClassId) (avs : List Value) (wc : va_W) : Prop :=
  ∀ sz : Nat, vx_Met l y ws rm (va_Pc avs (BpX D K wc sz)) (va_Qi (fun _ (_ : Unit) => False) (Bq_ D K (va_A wc sz) wc) (va_A wc sz)) (vx_X (fun (_ : Unit) => True) (fun E u t => E = "java/util/NoSuchElementException" ∧ Bq_ D K (va_A wc sz) wc u t) (va_A wc sz)) 1 6 (va_A wc sz)
theorem nx_in : ∀ w ∈ (vx_at0 RX10 237 "java/util/NoSuchElementException" ["java/lang/RuntimeException", "java/lang/Exception"]).filter (fun w => !goodWord w), w ∈ nx_l := by decide +kernel
theorem nx_ot : ∀ w ∈ Cond.classLink RX10 235 "java/util/NoSuchElementException" :: Cond.initialized "java/util/NoSuchElementException" :: vx_at0 RX10 237 "java/util/NoSuchElementException" ["java/lang/RuntimeException", "java/lang/Exception"], vx_ot w = true := by decide +kernel
theorem nx_fit : Bundle.fit "java/util/NoSuchElementException" = true := by decide +kernel
theorem nx_fits : ∀ n ∈ (["java/lang/RuntimeException", "java/lang/Exception"] : List String), Bundle.fit n = true := by decide +kernel
section ENX
variable {l : Launch} {y : MethodName} {ws ws' : List Cond} {rm : Room} {D : va_G} {K : Nat → ClassId} {avs : List Value} {wc : va_W} {cc : ByteArray} {maxL : Nat}
set_option maxRecDepth 100000 in
theorem en_x (hl0 : l.stackTraces = false) (hy : plainName y.cls = true) (hw : ws = Cond.code y cc maxL (some .int) :: ws') (ho : y.cls = RX10) (hz : (lg_sl avs).length ≤ maxL) (hk : Cond.classLink RX10 235 "java/util/NoSuchElementException" ∈ ws) (hini : Cond.initialized "java/util/NoSuchElementException" ∈ ws) (hat : ∀ w ∈ (vx_at0 RX10 237 "java/util/NoSuchElementException" ["java/lang/RuntimeException", "java/lang/Exception"]).filter goodWord, w ∈ ws) (hR : 5 < rm.frames ∧ 81 ≤ rm.locals ∧ 1 ≤ rm.cells ∧ 6 ≤ rm.slots)
    (body : ∀ (p : Program) (e : Env) (s : State) (m : MethodId) (args : Array Value) (below : List Frame) (meth : Method) (c : Code) (A : Nat → Prop) (Q : State → Prop) (H : Heap) (locs : List Loc) (ls : Array Slot),
      cx_ p s m args c cc maxL RX10 ws D K A → va_P D vwCl wc H → va_D A wc → va_S A s.heap H locs → lv_has ls maxL (lv_args 0 avs) →
      (∀ (pc : Nat) (H : Heap) (locs : List Loc) (ls : Array Slot), ls.size = maxL → decode cc pc = .ok (.new 235, 3) → decode cc (pc + 3) = .ok (.dup, 1) → decode cc (pc + 4) = .ok (.invokespecial 237, 3) → decode cc (pc + 7) = .ok (.athrow, 1) → va_P D vwCl wc H → va_D A wc → va_S A s.heap H locs → W p l e rm s m args below meth c H locs 0 0 Q (F0 m pc ls [])) →
      W p l e rm s m args below meth c H locs 0 0 Q (F0 m 0 ls [])) : Mx_ l y ws rm D K avs wc := by
  intro sz
  refine vx_ofW (cc := cc) (maxL := maxL) (ret := some .int) hy hw ?_
  intro p e s m args below meth c s₁ B hml hnx hv
  obtain ⟨rfl, ⟨hsz, hP, hK, hD0, hT⟩, hX⟩ := hv
  have hx := B.exec
  have hb := B.bytes
  have hts := atoms_spec (ws := ws) B.pre
  have hown : s.vm.findClass RX10 = some m.cls := ho ▸ findClass_of_methodNamed B.named
  have hlocks := B.notSynchronized
  subst hsz
  have hD := hD0.self (sz := s.heap.size)
  have hA : ∀ q : Nat, s.heap.size ≤ q → va_A wc s.heap.size q := fun q h => Or.inr h
  have hl := lv_entry avs (n := maxL) hz
  rw [lg_entry_eq]
  refine body p e s m avs.toArray below meth c (va_A wc s.heap.size) _ s.heap [] _ ⟨⟨hx, hb, hml, hown, hts⟩, hK, hA, hT⟩ hP hD va_S.rf hl ?_
  intro pc H locs ls hsize d0 d3 d4 d7 hP1 hD1 hS1
  obtain ⟨-, -, -, -, -, -, hU, hN, -⟩ := id hT
  refine vx_throw0 (own := RX10) (cls := "java/util/NoSuchElementException") (names := ["java/lang/RuntimeException", "java/lang/Exception"]) (ik := 235) (ic := 237) (A := va_A wc s.heap.size) hx hb hl0 hown nx_fit nx_fits (hts _ hk) (hts _ hini) (vx_hat (B := nx_l) (fun w h => hts w (hat w h)) nx_in hX.all) nx_ot hU hN hS1 (hsize.trans hml.symm) d0 d3 d4 d7 (fun x h => (hnx x h).elim) hR.1 hR.2.1 hR.2.2.1 hR.2.2.2 hlocks ?_ hS1.2.2 (Nat.le_refl _) (Nat.le_refl _)
  intro t hvm hs2 hq
  exact ⟨(), trivial, ⟨rfl, hP1.kept (fun k x hx => hq x.1 ((hP1 k x hx).lt)), va_K.moved hvm hK, hD1⟩, Nat.le_trans hS1.1 hs2, fun q h1 h2 => (hq q (Nat.lt_of_lt_of_le h1 hS1.1)).trans (hS1.2.1 q h1 h2)⟩
theorem fxx_ {w0 wr : va_W} (h : Mx_ l y ws rm D K avs wc) (hp : w0.Perm (wc ++ wr)) : Mx_ l y ws rm D K avs w0 := by
  intro sz p e h1 h2 h3 s m args below h4 h5 h6 h7
  have h60 : va_Pc avs (Bp_ D K w0 sz) args s := ⟨h6.1, h6.2.1⟩
  have h61 := fr_0 hp _ _ h60
  obtain ⟨n, o, a1, a2, a3, a4⟩ := h sz p e h1 h2 h3 s m args below h4 h5 ⟨h61.1, h61.2, h6.2.2⟩ h7
  refine ⟨n, o, a1, a2, a3, ?_⟩
  rcases a4 with ⟨⟨⟨r1, u, e1, e2, g⟩, f⟩, -⟩ | ⟨q, e1, E, ce, L, ⟨u, -, ⟨e3, g⟩, f⟩, b2, b3, b4, b5, b6, b7⟩
  · exact e2.elim
  · obtain ⟨k1, k2⟩ := fr_1 hp hp h60 g f
    exact Or.inr ⟨q, e1, E, ce, L, ⟨(), trivial, ⟨e3, k1⟩, k2⟩, b2, b3, b4, b5, b6, fun z hz => mo_A hp _ (b7 z hz)⟩
end ENX
theorem f2_ (a b : va_W) (L : List va_W) : (a :: b :: L).flatten.Perm ((a ++ b) ++ L.flatten) := by
  rw [List.flatten_cons, List.flatten_cons, List.append_assoc]
abbrev rtX10 : Room := { frames := 12, cells := 1, slots := 6, locals := 200 }
abbrev w2_ (G : Nat → Nat → Nat) (r : RT_X5) : va_W := [(((G 0) 0), .inr (9, [.ref ((G 1) 0), .ref ((G 2) 0), .ref ((G 3) 0), .ref ((G 4) 0), .ref ((G 5) 0), .ref ((G 0) 6), .ref ((G 0) 7), .ref ((G 0) 8), .ref ((G 6) 0), .ref ((G 7) 0), .ref ((G 8) 0), .ref ((G 9) 0), .ref ((G 10) 0), .ref ((G 0) 14)])), (((G 1) 0), .inr (5, [.ref ((G 1) 1), .ref ((G 1) 2), .ref ((G 1) 3), .ref ((G 1) 4), .ref ((G 1) 5), .ref ((G 1) 6), .ref ((G 1) 7), .ref ((G 1) 8), .int r.1, .int r.2.1, .int r.2.2.1, .int r.2.2.2.1, .int r.2.2.2.2.1]))]
set_option maxHeartbeats 4000000 in
set_option maxRecDepth 100000 in
theorem t_X10_gapOf (l : Launch) (hl0 : l.stackTraces = false) (D : va_G) (K : Nat → ClassId) (G : Nat → Nat → Nat) (r : RT_X5) (x1 x2 r1 : Int32) (h1 : F_X5_hasGap r.1 x1 = some r1) (h2 : r1 = 0 ∨ F_X10_isWithin x2 (0 : Int32) (3 : Int32) = some 0) : Mx_ l yX10_gapOf wsX10_gapOf rtX10 D K [.ref ((G 0) 0), .int x1, .int x2] (w2_ G r) := by
  refine en_x (cc := cX10_gapOf) (maxL := 4) hl0 (by decide) rfl rfl (Nat.le_of_ble_eq_true rfl) (List.mem_of_getElem? (i := 1) (by decide +kernel)) (List.mem_of_getElem? (i := 2) (by decide +kernel)) (fun w h => List.mem_cons_of_mem _ (List.mem_append_right _ h)) ⟨Nat.le_of_ble_eq_true rfl, Nat.le_of_ble_eq_true rfl, Nat.le_of_ble_eq_true rfl, Nat.le_of_ble_eq_true rfl⟩ ?_
  intro p e s m args below meth c A Q H locs ls C0 hP hD hS hl HX
  obtain ⟨⟨hx, hb, hml, hown, hts⟩, hK, -⟩ := id C0
  have hl : lv_has ls 4 [(0, .ref ((G 0) 0)), (1, .int x1), (2, .int x2)] := hl
  refine lv_aload_n hx hb dX10_gapOf_0 rfl (lv_at hl 0 rfl) ?_
  refine va_get (D := D) (ci := 9) (v := .ref ((G 1) 0)) (C := RX10) (T := TX10) (N := 14) hx hb hts iw_X10_gapOf_X10 hown hK hP 0 rfl rfl 0 (by decide) (hts _ fl_X10_gapOf_10) (fun _ h9 => h9) rfl dX10_gapOf_1 ?_
  refine lv_iload_n hx hb dX10_gapOf_4 rfl (lv_at hl 1 rfl) ?_
  refine xc_i (wn := (w2_ G r)) hP hD hS C0.2.2.1 [1] [0] [0, 1] rfl rfl (by decide) (by decide) rfl (by decide) (va_runV (As := [.int x1]) (rest := []) C0.1 (c_X5_hasGap l D K (G 1) r.1 r.2.1 r.2.2.1 r.2.2.2.1 r.2.2.2.2.1 x1 r1 h1 H.size) (cwV 1 hts gX10_gapOf_X5_hasGap rfl rfl rfl (by decide +kernel) ⟨Nat.le_of_ble_eq_true rfl, Nat.le_of_ble_eq_true rfl⟩) (xp_V C0.2 hP hD hS [1] rfl (by decide) 5 0 rfl rfl rfl) rfl rfl hl.1 rfl (lv_room (Nat.le_of_ble_eq_true rfl)) dX10_gapOf_5 ⟨Nat.le_of_ble_eq_true rfl, Nat.le_of_ble_eq_true rfl⟩) (fun H locs hP hD hS => ?_)
  refine lv_if_eq (tgt := 20) hx hb dX10_gapOf_8 (by decide) (fun c_3 => ?_) (fun c_3 => ?_)
  · exact HX 20 H locs ls hl.1 dX10_gapOf_20 dX10_gapOf_23 dX10_gapOf_24 dX10_gapOf_27 hP hD hS
  · have h3 : F_X10_isWithin x2 (0 : Int32) (3 : Int32) = some 0 := h2.elim (fun h => absurd h c_3) id
    refine lv_iload_n hx hb dX10_gapOf_11 rfl (lv_at hl 2 rfl) ?_
    refine lv_iconst (v := 0) hx hb dX10_gapOf_12 (by decide) ?_
    refine lv_iconst (v := 3) hx hb dX10_gapOf_13 (by decide) ?_
    refine xc_i (wn := (w2_ G r)) hP hD hS C0.2.2.1 [] [0, 1] [0, 1] rfl rfl (by decide) (by decide) rfl (by decide) (va_runS (As := [.int x2, .int (0 : Int32), .int (3 : Int32)]) (rest := []) C0.1 (c_X10_isWithin l D K x2 (0 : Int32) (3 : Int32) 0 h3 H.size) (va_cwS 3 hts gX10_gapOf_X10_isWithin rfl rfl rfl (by decide +kernel) ⟨Nat.le_of_ble_eq_true rfl, Nat.le_of_ble_eq_true rfl⟩) (xp_S C0.2 hP hD hS [] rfl (by decide)) rfl rfl hl.1 rfl (lv_room (Nat.le_of_ble_eq_true rfl)) dX10_gapOf_14 ⟨Nat.le_of_ble_eq_true rfl, Nat.le_of_ble_eq_true rfl⟩) (fun H locs hP hD hS => ?_)
    refine lv_if_ne (tgt := 28) hx hb dX10_gapOf_17 (by decide) (fun c_6 => absurd rfl c_6) (fun c_6 => ?_)
    exact HX 20 H locs ls hl.1 dX10_gapOf_20 dX10_gapOf_23 dX10_gapOf_24 dX10_gapOf_27 hP hD hS
theorem kt_X10_gapOf (l : Launch) (hl0 : l.stackTraces = false) (D : va_G) (K : Nat → ClassId) (G GR GK GT : Nat → Nat → Nat) (r : RT_X5) (d : RT_X5) (tx : RT_X8) (rd : RT_X6) (ho : Int32) (hs : Int32) (ring : Nat → RT_X5) (ec : RT_X3) (tk : RT_X9) (dw : RT_X2) (ch : RT_X1) (ad : RT_X0) (pl : Nat → Int32) (kp : Nat → Int32) (kr : Nat → RT_X5) (kt : Nat → RT_X8) (x1 x2 r1 : Int32) (h1 : F_X5_hasGap r.1 x1 = some r1) (h2 : r1 = 0 ∨ F_X10_isWithin x2 (0 : Int32) (3 : Int32) = some 0) : Mx_ l yX10_gapOf wsX10_gapOf rtX10 D K [.ref ((G 0) 0), .int x1, .int x2] (cwU K G GR GK GT r d tx rd ho hs ring ec tk dw ch ad pl kp kr kt).flatten :=
  fxx_ (t_X10_gapOf l hl0 D K G r x1 x2 r1 h1 h2) (f2_ _ _ _)
set_option maxHeartbeats 4000000 in
set_option maxRecDepth 100000 in
theorem t_X10_targetOf (l : Launch) (hl0 : l.stackTraces = false) (D : va_G) (K : Nat → ClassId) (G : Nat → Nat → Nat) (r : RT_X5) (x1 x2 r1 : Int32) (h1 : F_X5_hasTarget r.2.1 x1 = some r1) (h2 : r1 = 0 ∨ F_X10_isWithin x2 (0 : Int32) (6 : Int32) = some 0) : Mx_ l yX10_targetOf wsX10_targetOf rtX10 D K [.ref ((G 0) 0), .int x1, .int x2] (w2_ G r) := by
  refine en_x (cc := cX10_targetOf) (maxL := 3) hl0 (by decide) rfl rfl (Nat.le_of_ble_eq_true rfl) (List.mem_of_getElem? (i := 1) (by decide +kernel)) (List.mem_of_getElem? (i := 2) (by decide +kernel)) (fun w h => List.mem_cons_of_mem _ (List.mem_append_right _ h)) ⟨Nat.le_of_ble_eq_true rfl, Nat.le_of_ble_eq_true rfl, Nat.le_of_ble_eq_true rfl, Nat.le_of_ble_eq_true rfl⟩ ?_
  intro p e s m args below meth c A Q H locs ls C0 hP hD hS hl HX
  obtain ⟨⟨hx, hb, hml, hown, hts⟩, hK, -⟩ := id C0
  have hl : lv_has ls 3 [(0, .ref ((G 0) 0)), (1, .int x1), (2, .int x2)] := hl
  refine lv_aload_n hx hb dX10_targetOf_0 rfl (lv_at hl 0 rfl) ?_
  refine va_get (D := D) (ci := 9) (v := .ref ((G 1) 0)) (C := RX10) (T := TX10) (N := 14) hx hb hts iw_X10_targetOf_X10 hown hK hP 0 rfl rfl 0 (by decide) (hts _ fl_X10_targetOf_10) (fun _ h9 => h9) rfl dX10_targetOf_1 ?_
  refine lv_iload_n hx hb dX10_targetOf_4 rfl (lv_at hl 1 rfl) ?_
  refine xc_i (wn := (w2_ G r)) hP hD hS C0.2.2.1 [1] [0] [0, 1] rfl rfl (by decide) (by decide) rfl (by decide) (va_runV (As := [.int x1]) (rest := []) C0.1 (c_X5_hasTarget l D K (G 1) r.1 r.2.1 r.2.2.1 r.2.2.2.1 r.2.2.2.2.1 x1 r1 h1 H.size) (cwV 1 hts gX10_targetOf_X5_hasTarget rfl rfl rfl (by decide +kernel) ⟨Nat.le_of_ble_eq_true rfl, Nat.le_of_ble_eq_true rfl⟩) (xp_V C0.2 hP hD hS [1] rfl (by decide) 5 0 rfl rfl rfl) rfl rfl hl.1 rfl (lv_room (Nat.le_of_ble_eq_true rfl)) dX10_targetOf_5 ⟨Nat.le_of_ble_eq_true rfl, Nat.le_of_ble_eq_true rfl⟩) (fun H locs hP hD hS => ?_)
  refine lv_if_eq (tgt := 21) hx hb dX10_targetOf_8 (by decide) (fun c_3 => ?_) (fun c_3 => ?_)
  · exact HX 21 H locs ls hl.1 dX10_targetOf_21 dX10_targetOf_24 dX10_targetOf_25 dX10_targetOf_28 hP hD hS
  · have h3 : F_X10_isWithin x2 (0 : Int32) (6 : Int32) = some 0 := h2.elim (fun h => absurd h c_3) id
    refine lv_iload_n hx hb dX10_targetOf_11 rfl (lv_at hl 2 rfl) ?_
    refine lv_iconst (v := 0) hx hb dX10_targetOf_12 (by decide) ?_
    refine lv_bipush (v := 6) hx hb dX10_targetOf_13 (by decide) ?_
    refine xc_i (wn := (w2_ G r)) hP hD hS C0.2.2.1 [] [0, 1] [0, 1] rfl rfl (by decide) (by decide) rfl (by decide) (va_runS (As := [.int x2, .int (0 : Int32), .int (6 : Int32)]) (rest := []) C0.1 (c_X10_isWithin l D K x2 (0 : Int32) (6 : Int32) 0 h3 H.size) (va_cwS 3 hts gX10_targetOf_X10_isWithin rfl rfl rfl (by decide +kernel) ⟨Nat.le_of_ble_eq_true rfl, Nat.le_of_ble_eq_true rfl⟩) (xp_S C0.2 hP hD hS [] rfl (by decide)) rfl rfl hl.1 rfl (lv_room (Nat.le_of_ble_eq_true rfl)) dX10_targetOf_15 ⟨Nat.le_of_ble_eq_true rfl, Nat.le_of_ble_eq_true rfl⟩) (fun H locs hP hD hS => ?_)
    refine lv_if_ne (tgt := 29) hx hb dX10_targetOf_18 (by decide) (fun c_6 => absurd rfl c_6) (fun c_6 => ?_)
    exact HX 21 H locs ls hl.1 dX10_targetOf_21 dX10_targetOf_24 dX10_targetOf_25 dX10_targetOf_28 hP hD hS
theorem kt_X10_targetOf (l : Launch) (hl0 : l.stackTraces = false) (D : va_G) (K : Nat → ClassId) (G GR GK GT : Nat → Nat → Nat) (r : RT_X5) (d : RT_X5) (tx : RT_X8) (rd : RT_X6) (ho : Int32) (hs : Int32) (ring : Nat → RT_X5) (ec : RT_X3) (tk : RT_X9) (dw : RT_X2) (ch : RT_X1) (ad : RT_X0) (pl : Nat → Int32) (kp : Nat → Int32) (kr : Nat → RT_X5) (kt : Nat → RT_X8) (x1 x2 r1 : Int32) (h1 : F_X5_hasTarget r.2.1 x1 = some r1) (h2 : r1 = 0 ∨ F_X10_isWithin x2 (0 : Int32) (6 : Int32) = some 0) : Mx_ l yX10_targetOf wsX10_targetOf rtX10 D K [.ref ((G 0) 0), .int x1, .int x2] (cwU K G GR GK GT r d tx rd ho hs ring ec tk dw ch ad pl kp kr kt).flatten :=
  fxx_ (t_X10_targetOf l hl0 D K G r x1 x2 r1 h1 h2) (f2_ _ _ _)
theorem k_X10_gapOf (l : Launch) (D : va_G) (K : Nat → ClassId) (G GR GK GT : Nat → Nat → Nat) (r : RT_X5) (d : RT_X5) (tx : RT_X8) (rd : RT_X6) (ho : Int32) (hs : Int32) (ring : Nat → RT_X5) (ec : RT_X3) (tk : RT_X9) (dw : RT_X2) (ch : RT_X1) (ad : RT_X0) (pl : Nat → Int32) (kp : Nat → Int32) (kr : Nat → RT_X5) (kt : Nat → RT_X8) (x1 : Int32) (x2 : Int32) (res : Int32 × (Nat → Int32) × (Nat → Int32)) (hF : F_X10_gapOf r.1 r.2.1 r.2.2.2.2.2.1 r.2.2.2.2.2.2.1 r.2.2.2.2.2.2.2.1 r.2.2.2.2.2.2.2.2.1 r.2.2.2.2.2.2.2.2.2.1 ec.2.1 ec.2.2.1 x1 x2 = some res) :
    Mi_ l yX10_gapOf wsX10_gapOf rmX10_gapOf D K [.ref ((G 0) 0), .int x1, .int x2] (cwU K G GR GK GT r d tx rd ho hs ring ec tk dw ch ad pl kp kr kt).flatten (cwU K G GR GK GT r d tx rd ho hs ring (ec.1, res.2.1, res.2.2, ec.2.2.2.1, ec.2.2.2.2.1, ec.2.2.2.2.2) tk dw ch ad pl kp kr kt).flatten (res.1) :=
  fr_s (isC := [0, 1, 2, 3, 4, 5, 6, 26, 27, 28]) (isR := [7, 8, 9, 10, 11, 12, 13, 14, 15, 16, 17, 18, 19, 20, 21, 22, 23, 24, 25, 29, 30, 31, 32, 33, 34, 35, 36, 37, 38, 39, 40, 41, 42, 43, 44, 45, 46, 47, 48, 49, 50, 51, 52]) (n := 53) (X := [[(((G 1) 6), .inl (K 0, 4, .inl r.2.2.2.2.2.2.2.2.2.2.1))], [(((G 1) 7), .inl (K 0, 4, .inl r.2.2.2.2.2.2.2.2.2.2.2.1))], [(((G 1) 8), .inl (K 0, 48, .inl r.2.2.2.2.2.2.2.2.2.2.2.2))], [(((G 2) 0), .inr (5, [.ref ((G 2) 1), .ref ((G 2) 2), .ref ((G 2) 3), .ref ((G 2) 4), .ref ((G 2) 5), .ref ((G 2) 6), .ref ((G 2) 7), .ref ((G 2) 8), .int d.1, .int d.2.1, .int d.2.2.1, .int d.2.2.2.1, .int d.2.2.2.2.1]))], [(((G 2) 1), .inl (K 0, 5, .inl d.2.2.2.2.2.1))], [(((G 2) 2), .inl (K 0, 7, .inl d.2.2.2.2.2.2.1))], [(((G 2) 3), .inl (K 0, 8, .inl d.2.2.2.2.2.2.2.1))], [(((G 2) 4), .inl (K 0, 8, .inl d.2.2.2.2.2.2.2.2.1))], [(((G 2) 5), .inl (K 0, 8, .inl d.2.2.2.2.2.2.2.2.2.1))], [(((G 2) 6), .inl (K 0, 4, .inl d.2.2.2.2.2.2.2.2.2.2.1))], [(((G 2) 7), .inl (K 0, 4, .inl d.2.2.2.2.2.2.2.2.2.2.2.1))], [(((G 2) 8), .inl (K 0, 48, .inl d.2.2.2.2.2.2.2.2.2.2.2.2))], [(((G 3) 0), .inr (7, [.ref ((G 3) 1), .int tx.1, .int tx.2.1, .int tx.2.2.1]))], [(((G 3) 1), .inl (K 0, 400, .inl tx.2.2.2))], [(((G 4) 0), .inr (6, [.ref ((G 4) 1), .int rd.1, .int rd.2.1, .int rd.2.2.1, .int rd.2.2.2.1, .int rd.2.2.2.2.1, .int rd.2.2.2.2.2.1]))], [(((G 4) 1), .inl (K 0, 3, .inl rd.2.2.2.2.2.2))], [(((G 5) 0), .inr (4, [.ref ((G 5) 1), .int ho, .int hs]))], [(((G 5) 1), .inl (K 4, 8, .inr (.inr (.inr (.inr (fun i_ => some (GR i_ 0)))))))], gr_ 8 (fun i_ => rc_X5 K (GR i_) (ring i_)), [(((G 6) 3), .inl (K 0, 1000, .inl ec.2.2.2.1))], [(((G 6) 4), .inl (K 0, 40, .inl ec.2.2.2.2.1))], [(((G 6) 5), .inl (K 0, 40, .inl ec.2.2.2.2.2))], [(((G 7) 0), .inr (8, [.ref ((G 7) 1), .ref ((G 7) 2), .int tk.1]))], [(((G 7) 1), .inl (K 0, 48, .inl tk.2.1))], [(((G 7) 2), .inl (K 0, 4, .inl tk.2.2))], [(((G 8) 0), .inr (2, [.ref ((G 8) 1), .int dw.1, .ref ((G 8) 3), .int dw.2.1, .ref ((G 8) 5), .int dw.2.2.1]))], [(((G 8) 1), .inl (K 0, 5, .inl dw.2.2.2.1))], [(((G 8) 3), .inl (K 0, 65, .inl dw.2.2.2.2.1))], [(((G 8) 5), .inl (K 0, 5, .inl dw.2.2.2.2.2))], [(((G 9) 0), .inr (1, [.ref ((G 9) 1), .ref ((G 9) 2), .ref ((G 9) 3), .ref ((G 9) 4), .int ch.1, .int ch.2.1, .int ch.2.2.1, .int ch.2.2.2.1, .int ch.2.2.2.2.1, .int ch.2.2.2.2.2.1, .ref ((G 9) 11), .int ch.2.2.2.2.2.2.1, .int ch.2.2.2.2.2.2.2.1]))], [(((G 9) 1), .inl (K 1, 84, .inr (.inl ch.2.2.2.2.2.2.2.2.1)))], [(((G 9) 2), .inl (K 1, 80, .inr (.inl ch.2.2.2.2.2.2.2.2.2.1)))], [(((G 9) 3), .inl (K 1, 4, .inr (.inl ch.2.2.2.2.2.2.2.2.2.2.1)))], [(((G 9) 4), .inl (K 0, 4, .inl ch.2.2.2.2.2.2.2.2.2.2.2.1))], [(((G 9) 11), .inl (K 0, 4, .inl ch.2.2.2.2.2.2.2.2.2.2.2.2))], [(((G 10) 0), .inr (0, [.ref ((G 10) 1)]))], [(((G 10) 1), .inl (K 0, 61, .inl ad))], [(((G 0) 14), .inl (K 0, 5, .inl pl))], [(((G 0) 6), .inl (K 4, 3, .inr (.inr (.inr (.inr (fun i_ => some (GK i_ 0)))))))], [(((G 0) 7), .inl (K 5, 3, .inr (.inr (.inr (.inr (fun i_ => some (GT i_ 0)))))))], [(((G 0) 8), .inl (K 2, 3, .inl kp))], gr_ 3 (fun i_ => rc_X5 K (GK i_) (kr i_)), gr_ 3 (fun i_ => rc_X8 K (GT i_) (kt i_))]) (c_X10_gapOf l D K (G 0) (G 1) (G 2) (G 3) (G 4) (G 5) (G 6) (G 7) (G 8) (G 9) (G 10) r.1 r.2.1 r.2.2.1 r.2.2.2.1 r.2.2.2.2.1 r.2.2.2.2.2.1 r.2.2.2.2.2.2.1 r.2.2.2.2.2.2.2.1 r.2.2.2.2.2.2.2.2.1 r.2.2.2.2.2.2.2.2.2.1 ec.1 ec.2.1 ec.2.2.1 x1 x2 res hF) rfl rfl (by decide +kernel) rfl rfl rfl rfl
theorem k_X10_targetOf (l : Launch) (D : va_G) (K : Nat → ClassId) (G GR GK GT : Nat → Nat → Nat) (r : RT_X5) (d : RT_X5) (tx : RT_X8) (rd : RT_X6) (ho : Int32) (hs : Int32) (ring : Nat → RT_X5) (ec : RT_X3) (tk : RT_X9) (dw : RT_X2) (ch : RT_X1) (ad : RT_X0) (pl : Nat → Int32) (kp : Nat → Int32) (kr : Nat → RT_X5) (kt : Nat → RT_X8) (x1 : Int32) (x2 : Int32) (res : Int32 × (Nat → Int32) × (Nat → Int32)) (hF : F_X10_targetOf r.1 r.2.1 r.2.2.2.2.2.1 r.2.2.2.2.2.2.1 r.2.2.2.2.2.2.2.1 r.2.2.2.2.2.2.2.2.1 r.2.2.2.2.2.2.2.2.2.1 ec.2.1 ec.2.2.1 x1 x2 = some res) :
    Mi_ l yX10_targetOf wsX10_targetOf rmX10_targetOf D K [.ref ((G 0) 0), .int x1, .int x2] (cwU K G GR GK GT r d tx rd ho hs ring ec tk dw ch ad pl kp kr kt).flatten (cwU K G GR GK GT r d tx rd ho hs ring (ec.1, res.2.1, res.2.2, ec.2.2.2.1, ec.2.2.2.2.1, ec.2.2.2.2.2) tk dw ch ad pl kp kr kt).flatten (res.1) :=
  fr_s (isC := [0, 1, 2, 3, 4, 5, 6, 26, 27, 28]) (isR := [7, 8, 9, 10, 11, 12, 13, 14, 15, 16, 17, 18, 19, 20, 21, 22, 23, 24, 25, 29, 30, 31, 32, 33, 34, 35, 36, 37, 38, 39, 40, 41, 42, 43, 44, 45, 46, 47, 48, 49, 50, 51, 52]) (n := 53) (X := [[(((G 1) 6), .inl (K 0, 4, .inl r.2.2.2.2.2.2.2.2.2.2.1))], [(((G 1) 7), .inl (K 0, 4, .inl r.2.2.2.2.2.2.2.2.2.2.2.1))], [(((G 1) 8), .inl (K 0, 48, .inl r.2.2.2.2.2.2.2.2.2.2.2.2))], [(((G 2) 0), .inr (5, [.ref ((G 2) 1), .ref ((G 2) 2), .ref ((G 2) 3), .ref ((G 2) 4), .ref ((G 2) 5), .ref ((G 2) 6), .ref ((G 2) 7), .ref ((G 2) 8), .int d.1, .int d.2.1, .int d.2.2.1, .int d.2.2.2.1, .int d.2.2.2.2.1]))], [(((G 2) 1), .inl (K 0, 5, .inl d.2.2.2.2.2.1))], [(((G 2) 2), .inl (K 0, 7, .inl d.2.2.2.2.2.2.1))], [(((G 2) 3), .inl (K 0, 8, .inl d.2.2.2.2.2.2.2.1))], [(((G 2) 4), .inl (K 0, 8, .inl d.2.2.2.2.2.2.2.2.1))], [(((G 2) 5), .inl (K 0, 8, .inl d.2.2.2.2.2.2.2.2.2.1))], [(((G 2) 6), .inl (K 0, 4, .inl d.2.2.2.2.2.2.2.2.2.2.1))], [(((G 2) 7), .inl (K 0, 4, .inl d.2.2.2.2.2.2.2.2.2.2.2.1))], [(((G 2) 8), .inl (K 0, 48, .inl d.2.2.2.2.2.2.2.2.2.2.2.2))], [(((G 3) 0), .inr (7, [.ref ((G 3) 1), .int tx.1, .int tx.2.1, .int tx.2.2.1]))], [(((G 3) 1), .inl (K 0, 400, .inl tx.2.2.2))], [(((G 4) 0), .inr (6, [.ref ((G 4) 1), .int rd.1, .int rd.2.1, .int rd.2.2.1, .int rd.2.2.2.1, .int rd.2.2.2.2.1, .int rd.2.2.2.2.2.1]))], [(((G 4) 1), .inl (K 0, 3, .inl rd.2.2.2.2.2.2))], [(((G 5) 0), .inr (4, [.ref ((G 5) 1), .int ho, .int hs]))], [(((G 5) 1), .inl (K 4, 8, .inr (.inr (.inr (.inr (fun i_ => some (GR i_ 0)))))))], gr_ 8 (fun i_ => rc_X5 K (GR i_) (ring i_)), [(((G 6) 3), .inl (K 0, 1000, .inl ec.2.2.2.1))], [(((G 6) 4), .inl (K 0, 40, .inl ec.2.2.2.2.1))], [(((G 6) 5), .inl (K 0, 40, .inl ec.2.2.2.2.2))], [(((G 7) 0), .inr (8, [.ref ((G 7) 1), .ref ((G 7) 2), .int tk.1]))], [(((G 7) 1), .inl (K 0, 48, .inl tk.2.1))], [(((G 7) 2), .inl (K 0, 4, .inl tk.2.2))], [(((G 8) 0), .inr (2, [.ref ((G 8) 1), .int dw.1, .ref ((G 8) 3), .int dw.2.1, .ref ((G 8) 5), .int dw.2.2.1]))], [(((G 8) 1), .inl (K 0, 5, .inl dw.2.2.2.1))], [(((G 8) 3), .inl (K 0, 65, .inl dw.2.2.2.2.1))], [(((G 8) 5), .inl (K 0, 5, .inl dw.2.2.2.2.2))], [(((G 9) 0), .inr (1, [.ref ((G 9) 1), .ref ((G 9) 2), .ref ((G 9) 3), .ref ((G 9) 4), .int ch.1, .int ch.2.1, .int ch.2.2.1, .int ch.2.2.2.1, .int ch.2.2.2.2.1, .int ch.2.2.2.2.2.1, .ref ((G 9) 11), .int ch.2.2.2.2.2.2.1, .int ch.2.2.2.2.2.2.2.1]))], [(((G 9) 1), .inl (K 1, 84, .inr (.inl ch.2.2.2.2.2.2.2.2.1)))], [(((G 9) 2), .inl (K 1, 80, .inr (.inl ch.2.2.2.2.2.2.2.2.2.1)))], [(((G 9) 3), .inl (K 1, 4, .inr (.inl ch.2.2.2.2.2.2.2.2.2.2.1)))], [(((G 9) 4), .inl (K 0, 4, .inl ch.2.2.2.2.2.2.2.2.2.2.2.1))], [(((G 9) 11), .inl (K 0, 4, .inl ch.2.2.2.2.2.2.2.2.2.2.2.2))], [(((G 10) 0), .inr (0, [.ref ((G 10) 1)]))], [(((G 10) 1), .inl (K 0, 61, .inl ad))], [(((G 0) 14), .inl (K 0, 5, .inl pl))], [(((G 0) 6), .inl (K 4, 3, .inr (.inr (.inr (.inr (fun i_ => some (GK i_ 0)))))))], [(((G 0) 7), .inl (K 5, 3, .inr (.inr (.inr (.inr (fun i_ => some (GT i_ 0)))))))], [(((G 0) 8), .inl (K 2, 3, .inl kp))], gr_ 3 (fun i_ => rc_X5 K (GK i_) (kr i_)), gr_ 3 (fun i_ => rc_X8 K (GT i_) (kt i_))]) (c_X10_targetOf l D K (G 0) (G 1) (G 2) (G 3) (G 4) (G 5) (G 6) (G 7) (G 8) (G 9) (G 10) r.1 r.2.1 r.2.2.1 r.2.2.2.1 r.2.2.2.2.1 r.2.2.2.2.2.1 r.2.2.2.2.2.2.1 r.2.2.2.2.2.2.2.1 r.2.2.2.2.2.2.2.2.1 r.2.2.2.2.2.2.2.2.2.1 ec.1 ec.2.1 ec.2.2.1 x1 x2 res hF) rfl rfl (by decide +kernel) rfl rfl rfl rfl
theorem sim_gapOf (l : Launch) (hl0 : l.stackTraces = false) (D : va_G) {K : Nat → ClassId} {hx hm : Nat} {Wc Wr : va_W} (h : SIM K hx hm Wc Wr) (x1 x2 : Int32) :
    ∃ (Wr2 : va_W) (b : Int32), Mi_ l yX11_gapOf wsX11_gapOf rmX11_gapOf D K [.ref hm, .int x1, .int x2] Wr Wr2 b ∧ ((∃ Wc2 : va_W, Mi_ l yX10_gapOf wsX10_gapOf rmX10_gapOf D K [.ref hx, .int x1, .int x2] Wc Wc2 b ∧ Mi_ l yX11_thrown wsX11_thrown rmX11_thrown D K [.ref hm] Wr2 Wr2 0 ∧ SIM K hx hm Wc2 Wr2) ∨ (Mx_ l yX10_gapOf wsX10_gapOf rtX10 D K [.ref hx, .int x1, .int x2] Wc ∧ Mi_ l yX11_thrown wsX11_thrown rmX11_thrown D K [.ref hm] Wr2 Wr2 1 ∧ SIM K hx hm Wc Wr2)) := by
  refine SIM_el h (fun Wc Wr hx hm => ∃ (Wr2 : va_W) (b : Int32), Mi_ l yX11_gapOf wsX11_gapOf rmX11_gapOf D K [.ref hm, .int x1, .int x2] Wr Wr2 b ∧ ((∃ Wc2 : va_W, Mi_ l yX10_gapOf wsX10_gapOf rmX10_gapOf D K [.ref hx, .int x1, .int x2] Wc Wc2 b ∧ Mi_ l yX11_thrown wsX11_thrown rmX11_thrown D K [.ref hm] Wr2 Wr2 0 ∧ SIM K hx hm Wc2 Wr2) ∨ (Mx_ l yX10_gapOf wsX10_gapOf rtX10 D K [.ref hx, .int x1, .int x2] Wc ∧ Mi_ l yX11_thrown wsX11_thrown rmX11_thrown D K [.ref hm] Wr2 Wr2 1 ∧ SIM K hx hm Wc Wr2))) ?_
  intro G GR GK GT r d tx rd ho hs ring ec tk dw ch ad pl kp kr kt g q_raised q_undos q_reached q_length q_begin q_sort q_value q_word q_wrongAt q_badAt q_bad q_read q_pictured q_x q_all q_text q_saved q_undone q_told q_loud q_picture q_took q_free q_places q_which q_sent q_order q_bestOrder q_chosen q_best m hm hc hA hT hu hI
  obtain ⟨hg, hw, ht, hl⟩ := id hm
  obtain ⟨cg, cs, ct, cl, -, -⟩ := id hc
  obtain ⟨a, ha, rfl⟩ := iI_ex x1
  obtain ⟨b, hb, rfl⟩ := iI_ex x2
  obtain ⟨g2, e2⟩ := ev_rgapOf hg hw ht hA q_raised q_loud ha hb
  by_cases cd : (0 ≤ a ∧ a < m 0) ∧ 0 ≤ b ∧ b ≤ 3
  · rw [if_pos cd, if_pos cd] at e2
    obtain ⟨f1, f2, e1⟩ := ev_gapOf hg hw ht cg cs ct ec.2.1 ec.2.2.1 ha hb cd.1 cd.2
    exact ⟨_, _, k_X11_gapOf l D K g q_raised q_undos q_reached q_length q_begin q_sort q_value q_word q_wrongAt q_badAt q_bad q_read q_pictured q_x q_all q_text q_saved q_undone q_told q_loud q_picture q_took q_free q_places q_which q_sent q_order q_bestOrder q_chosen q_best _ _ _ e2, Or.inl ⟨_, k_X10_gapOf l D K G GR GK GT r d tx rd ho hs ring ec tk dw ch ad pl kp kr kt _ _ _ e1, k_X11_thrown l D K g 0 q_undos q_reached q_length q_begin q_sort q_value q_word q_wrongAt q_badAt q_bad q_read q_pictured q_x q_all q_text q_saved q_undone q_told g2 q_picture q_took q_free q_places q_which q_sent q_order q_bestOrder q_chosen q_best _ rfl, SIM_mk ⟨m, hm, hc, hA, hT, hu, hI⟩⟩⟩
  · rw [if_neg cd, if_neg cd] at e2
    have h1 := ev_hasGap hg cg.1 ha
    have h2 : bI (decide (0 ≤ a ∧ a < m 0)) = 0 ∨ F_X10_isWithin (iI b) (0 : Int32) (3 : Int32) = some 0 := by
      by_cases c : 0 ≤ a ∧ a < m 0
      · have e3 : F_X10_isWithin (iI b) (0 : Int32) (3 : Int32) = some (bI (decide (0 ≤ b ∧ b ≤ 3))) := ev_within (b := 0) (c := 3) hb (by omega) (by omega)
        rw [e3, decide_eq_false (fun d => cd ⟨c, d⟩)]
        exact Or.inr rfl
      · rw [decide_eq_false c]
        exact Or.inl rfl
    exact ⟨_, _, k_X11_gapOf l D K g q_raised q_undos q_reached q_length q_begin q_sort q_value q_word q_wrongAt q_badAt q_bad q_read q_pictured q_x q_all q_text q_saved q_undone q_told q_loud q_picture q_took q_free q_places q_which q_sent q_order q_bestOrder q_chosen q_best _ _ _ e2, Or.inr ⟨kt_X10_gapOf l hl0 D K G GR GK GT r d tx rd ho hs ring ec tk dw ch ad pl kp kr kt _ _ _ h1 h2, k_X11_thrown l D K g 1 q_undos q_reached q_length q_begin q_sort q_value q_word q_wrongAt q_badAt q_bad q_read q_pictured q_x q_all q_text q_saved q_undone q_told g2 q_picture q_took q_free q_places q_which q_sent q_order q_bestOrder q_chosen q_best _ rfl, SIM_mk ⟨m, hm, hc, hA, hT, hu, hI⟩⟩⟩
theorem sim_targetOf (l : Launch) (hl0 : l.stackTraces = false) (D : va_G) {K : Nat → ClassId} {hx hm : Nat} {Wc Wr : va_W} (h : SIM K hx hm Wc Wr) (x1 x2 : Int32) :
    ∃ (Wr2 : va_W) (b : Int32), Mi_ l yX11_targetOf wsX11_targetOf rmX11_targetOf D K [.ref hm, .int x1, .int x2] Wr Wr2 b ∧ ((∃ Wc2 : va_W, Mi_ l yX10_targetOf wsX10_targetOf rmX10_targetOf D K [.ref hx, .int x1, .int x2] Wc Wc2 b ∧ Mi_ l yX11_thrown wsX11_thrown rmX11_thrown D K [.ref hm] Wr2 Wr2 0 ∧ SIM K hx hm Wc2 Wr2) ∨ (Mx_ l yX10_targetOf wsX10_targetOf rtX10 D K [.ref hx, .int x1, .int x2] Wc ∧ Mi_ l yX11_thrown wsX11_thrown rmX11_thrown D K [.ref hm] Wr2 Wr2 1 ∧ SIM K hx hm Wc Wr2)) := by
  refine SIM_el h (fun Wc Wr hx hm => ∃ (Wr2 : va_W) (b : Int32), Mi_ l yX11_targetOf wsX11_targetOf rmX11_targetOf D K [.ref hm, .int x1, .int x2] Wr Wr2 b ∧ ((∃ Wc2 : va_W, Mi_ l yX10_targetOf wsX10_targetOf rmX10_targetOf D K [.ref hx, .int x1, .int x2] Wc Wc2 b ∧ Mi_ l yX11_thrown wsX11_thrown rmX11_thrown D K [.ref hm] Wr2 Wr2 0 ∧ SIM K hx hm Wc2 Wr2) ∨ (Mx_ l yX10_targetOf wsX10_targetOf rtX10 D K [.ref hx, .int x1, .int x2] Wc ∧ Mi_ l yX11_thrown wsX11_thrown rmX11_thrown D K [.ref hm] Wr2 Wr2 1 ∧ SIM K hx hm Wc Wr2))) ?_
  intro G GR GK GT r d tx rd ho hs ring ec tk dw ch ad pl kp kr kt g q_raised q_undos q_reached q_length q_begin q_sort q_value q_word q_wrongAt q_badAt q_bad q_read q_pictured q_x q_all q_text q_saved q_undone q_told q_loud q_picture q_took q_free q_places q_which q_sent q_order q_bestOrder q_chosen q_best m hm hc hA hT hu hI
  obtain ⟨hg, hw, ht, hl⟩ := id hm
  obtain ⟨cg, cs, ct, cl, -, -⟩ := id hc
  obtain ⟨a, ha, rfl⟩ := iI_ex x1
  obtain ⟨b, hb, rfl⟩ := iI_ex x2
  obtain ⟨g2, e2⟩ := ev_rtargetOf hg hw ht hA q_raised q_loud ha hb
  by_cases cd : (0 ≤ a ∧ a < m 13) ∧ 0 ≤ b ∧ b ≤ 6
  · rw [if_pos cd, if_pos cd] at e2
    obtain ⟨f1, f2, e1⟩ := ev_targetOf hg hw ht cg cs ct ec.2.1 ec.2.2.1 ha hb cd.1 cd.2
    exact ⟨_, _, k_X11_targetOf l D K g q_raised q_undos q_reached q_length q_begin q_sort q_value q_word q_wrongAt q_badAt q_bad q_read q_pictured q_x q_all q_text q_saved q_undone q_told q_loud q_picture q_took q_free q_places q_which q_sent q_order q_bestOrder q_chosen q_best _ _ _ e2, Or.inl ⟨_, k_X10_targetOf l D K G GR GK GT r d tx rd ho hs ring ec tk dw ch ad pl kp kr kt _ _ _ e1, k_X11_thrown l D K g 0 q_undos q_reached q_length q_begin q_sort q_value q_word q_wrongAt q_badAt q_bad q_read q_pictured q_x q_all q_text q_saved q_undone q_told g2 q_picture q_took q_free q_places q_which q_sent q_order q_bestOrder q_chosen q_best _ rfl, SIM_mk ⟨m, hm, hc, hA, hT, hu, hI⟩⟩⟩
  · rw [if_neg cd, if_neg cd] at e2
    have h1 := ev_hasTarget ht ct.1 ha
    have h2 : bI (decide (0 ≤ a ∧ a < m 13)) = 0 ∨ F_X10_isWithin (iI b) (0 : Int32) (6 : Int32) = some 0 := by
      by_cases c : 0 ≤ a ∧ a < m 13
      · have e3 : F_X10_isWithin (iI b) (0 : Int32) (6 : Int32) = some (bI (decide (0 ≤ b ∧ b ≤ 6))) := ev_within (b := 0) (c := 6) hb (by omega) (by omega)
        rw [e3, decide_eq_false (fun d => cd ⟨c, d⟩)]
        exact Or.inr rfl
      · rw [decide_eq_false c]
        exact Or.inl rfl
    exact ⟨_, _, k_X11_targetOf l D K g q_raised q_undos q_reached q_length q_begin q_sort q_value q_word q_wrongAt q_badAt q_bad q_read q_pictured q_x q_all q_text q_saved q_undone q_told q_loud q_picture q_took q_free q_places q_which q_sent q_order q_bestOrder q_chosen q_best _ _ _ e2, Or.inr ⟨kt_X10_targetOf l hl0 D K G GR GK GT r d tx rd ho hs ring ec tk dw ch ad pl kp kr kt _ _ _ h1 h2, k_X11_thrown l D K g 1 q_undos q_reached q_length q_begin q_sort q_value q_word q_wrongAt q_badAt q_bad q_read q_pictured q_x q_all q_text q_saved q_undone q_told g2 q_picture q_took q_free q_places q_which q_sent q_order q_bestOrder q_chosen q_best _ rfl, SIM_mk ⟨m, hm, hc, hA, hT, hu, hI⟩⟩⟩
theorem SIM_hd {K : Nat → ClassId} {hx hm : Nat} {Wc Wr : va_W} (h : SIM K hx hm Wc Wr) : (∃ fs, Wc[0]? = some (hx, .inr (9, fs))) ∧ ∃ fs, Wr[0]? = some (hm, .inr (10, fs)) := by
  refine SIM_el h (fun Wc Wr hx hm => (∃ fs, Wc[0]? = some (hx, .inr (9, fs))) ∧ ∃ fs, Wr[0]? = some (hm, .inr (10, fs))) ?_
  intros
  exact ⟨⟨_, rfl⟩, ⟨_, rfl⟩⟩
/-! ===== END ===== -/
