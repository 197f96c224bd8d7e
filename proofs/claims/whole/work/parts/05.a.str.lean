/-! ===== BEGIN the words of the texts: String's own methods over them, and the reader's wordOf ===== -/
section ENT2
variable {l : Launch} {y : MethodName} {ws ws' : List Cond} {rm : Room} {D : va_G} {K : Nat → ClassId} {avs : List Value} {wc w1 : va_W} {cc : ByteArray} {maxL : Nat}
theorem en_t {r : Int32} {own : String} (ty : FieldType) (hy : plainName y.cls = true) (hw : ws = Cond.code y cc maxL (some ty) :: ws') (ho : y.cls = own) (hz : (lg_sl avs).length ≤ maxL)
    (body : ∀ (p : Program) (e : Env) (s : State) (m : MethodId) (args : Array Value) (below : List Frame) (meth : Method) (c : Code) (A : Nat → Prop) (Q : State → Prop) (H : Heap) (locs : List Loc) (ls : Array Slot),
      cx_ p s m args c cc maxL own ws D K A → va_P D vwCl wc H → va_D A wc → va_S A s.heap H locs → lv_has ls maxL (lv_args 0 avs) →
      (∀ (pc : Nat) (H : Heap) (locs : List Loc) (ls : Array Slot), decode cc pc = .ok (.ireturn, 1) → narrow ty (.int r) = .int r → va_P D vwCl w1 H → va_D A w1 → va_S A s.heap H locs → W p l e rm s m args below meth c H locs 0 0 Q (F0 m pc ls [.int r])) →
      W p l e rm s m args below meth c H locs 0 0 Q (F0 m 0 ls [])) : Mi_ l y ws rm D K avs wc w1 r := by
  intro sz
  refine Met.ofW (cc := cc) (maxL := maxL) (ret := some ty) hy hw ?_
  intro p e s m args below meth c s₁ B hml hv
  obtain ⟨rfl, hsz, hP, hK, hD0, hT⟩ := hv
  have hx := B.exec
  have hb := B.bytes
  have hr := B.returns
  have hts := atoms_spec (ws := ws) B.pre
  have hown : s.vm.findClass own = some m.cls := ho ▸ findClass_of_methodNamed B.named
  have hlocks := B.notSynchronized
  subst hsz
  have hD := hD0.self (sz := s.heap.size)
  have hA : ∀ q : Nat, s.heap.size ≤ q → va_A wc s.heap.size q := fun q h => Or.inr h
  have hl := lv_entry avs (n := maxL) hz
  rw [lg_entry_eq]
  refine body p e s m avs.toArray below meth c (va_A wc s.heap.size) _ s.heap [] _ ⟨⟨hx, hb, hml, hown, hts⟩, hK, hA, hT⟩ hP hD va_S.rf hl ?_
  intro pc H locs ls hd hn hP1 hD1 hS1
  exact W.zret (v := r) (ty := ty) hx hb hr hn (fun t ht hW => ⟨⟨r, (), rfl, rfl, by rw [ht]; exact hP1, va_K.moved hW.alike hK, hD1⟩, hS1.F ht⟩) hS1.2.2 hd
/-- a contract that answers a cell that is known -/
def Mr_ (l : Launch) (y : MethodName) (ws : List Cond) (rm : Room) (D : va_G) (K : Nat → ClassId) (avs : List Value) (wc w1 : va_W) (r : Nat) : Prop :=
  ∀ sz : Nat, Met l y ws rm (va_Pc avs (Bp_ D K wc sz)) (va_Qr (fun (_ : Unit) => True) (fun u z t => z = r ∧ Bq_ D K (va_A wc sz) w1 u t) (va_A wc sz)) 0 0 (va_A wc sz)
theorem en_r {r : Nat} {own cn : String} (hy : plainName y.cls = true) (hw : ws = Cond.code y cc maxL (some (.object cn)) :: ws') (ho : y.cls = own) (hz : (lg_sl avs).length ≤ maxL)
    (body : ∀ (p : Program) (e : Env) (s : State) (m : MethodId) (args : Array Value) (below : List Frame) (meth : Method) (c : Code) (A : Nat → Prop) (Q : State → Prop) (H : Heap) (locs : List Loc) (ls : Array Slot),
      cx_ p s m args c cc maxL own ws D K A → va_P D vwCl wc H → va_D A wc → va_S A s.heap H locs → lv_has ls maxL (lv_args 0 avs) →
      (∀ (pc : Nat) (H : Heap) (locs : List Loc) (ls : Array Slot), decode cc pc = .ok (.areturn, 1) → va_P D vwCl w1 H → va_D A w1 → va_S A s.heap H locs → W p l e rm s m args below meth c H locs 0 0 Q (F0 m pc ls [.ref r])) →
      W p l e rm s m args below meth c H locs 0 0 Q (F0 m 0 ls [])) : Mr_ l y ws rm D K avs wc w1 r := by
  intro sz
  refine Met.ofW (cc := cc) (maxL := maxL) (ret := some (.object cn)) hy hw ?_
  intro p e s m args below meth c s₁ B hml hv
  obtain ⟨rfl, hsz, hP, hK, hD0, hT⟩ := hv
  have hx := B.exec
  have hb := B.bytes
  have hr := B.returns
  have hts := atoms_spec (ws := ws) B.pre
  have hown : s.vm.findClass own = some m.cls := ho ▸ findClass_of_methodNamed B.named
  have hlocks := B.notSynchronized
  subst hsz
  have hD := hD0.self (sz := s.heap.size)
  have hA : ∀ q : Nat, s.heap.size ≤ q → va_A wc s.heap.size q := fun q h => Or.inr h
  have hl := lv_entry avs (n := maxL) hz
  rw [lg_entry_eq]
  refine body p e s m avs.toArray below meth c (va_A wc s.heap.size) _ s.heap [] _ ⟨⟨hx, hb, hml, hown, hts⟩, hK, hA, hT⟩ hP hD va_S.rf hl ?_
  intro pc H locs ls hd hP1 hD1 hS1
  exact W.aret (v := .ref r) (rt := .object cn) hx hb hr (Or.inl ⟨cn, rfl⟩) (Or.inr ⟨r, rfl⟩) (fun t ht hW => ⟨⟨(), r, rfl, trivial, rfl, by rw [ht]; exact hP1, va_K.moved hW.alike hK, hD1⟩, hS1.F ht⟩) hS1.2.2 hd
end ENT2
section CAL2
variable {p : Program} {l : Launch} {e : Env} {R : Room} {s : State} {m : MethodId} {args : Array Value} {below : List Frame} {meth : Method} {c : Code} {H : Heap} {locs : List Loc} {Q : State → Prop}
variable {pc : Nat} {ls : Array Slot} {rest st0 : List Value} {a : Array Value} {D : va_G} {K : Nat → ClassId} {A : Nat → Prop} {ws0 wc w1 wn : va_W}
theorem xc_r {r : Nat} (hP : va_P D vwCl ws0 H) (hD : va_D A ws0) (hS : va_S A s.heap H locs) (hA : ∀ q : Nat, s.heap.size ≤ q → A q) (isC isR isN : List Nat)
    (hC : isC.map (fun i => ws0[i]?) = wc.map some) (hR : isR.all (fun i => Nat.blt i ws0.length) = true) (hn : va_nd isR = true) (hdis : ∀ i ∈ isR, i ∉ isC)
    (hN : isN.map (fun i => (isR.filterMap (fun i => ws0[i]?) ++ w1)[i]?) = wn.map some) (hn2 : va_nd isN = true)
    (hr : va_Run p l e R s m args below meth c H locs 0 0 0 0 (F0 m pc ls st0) rest (va_Qr (fun (_ : Unit) => True) (fun u z t => z = r ∧ Bq_ D K (va_A wc H.size) w1 u t) (va_A wc H.size) a) (va_A wc H.size))
    (kk : ∀ (H : Heap) (locs : List Loc), va_P D vwCl wn H → va_D A wn → va_S A s.heap H locs → W p l e R s m args below meth c H locs 0 0 Q (F0 m (pc + 3) ls (.ref r :: rest))) : W p l e R s m args below meth c H locs 0 0 Q (F0 m pc ls st0) := by
  have hFc := va_free (wc := wc) hD hS hA isC hC
  refine va_callr hr hS (fun q _ h => hFc q h) hFc (fun u ra t H1 locs1 ht hvm hw hB hz1 hk1 hS1 => ?_)
  obtain ⟨hra, hP1, hK1, hD1⟩ := hB
  rw [ht] at hP1
  obtain ⟨hP2, hD2⟩ := va_join hP hD isC isR hC (fm_in hR) hn hdis hk1 hFc hP1 hD1
  rw [hra]
  exact kk H1 locs1 (hP2.sub isN (fm_map hN)) (hD2.sub isN hn2 hN) hS1
theorem xp_K {w : Nat} (hw : w < 10) {As : List Value} (hX : va_K D vwCl (ty_ K) s ∧ (∀ q : Nat, s.heap.size ≤ q → A q) ∧ ST_ K A s s.heap) (hP : va_P D vwCl ws0 H) (hD : va_D A ws0) (hS : va_S A s.heap H locs) :
    PreV s H RJ0 (K (100 + w)) (va_Pc (.ref (K (100 + w)) :: As) (Bp_ D K [] H.size)) As := by
  have h := xp_S (As := .ref (K (100 + w)) :: As) (wc := []) hX hP hD hS [] rfl rfl
  exact ⟨h.1, vk_recv (adK := fun i => K (100 + i)) (i := w) hX.2.2.2.2.2.2.1.1 hw hS, h.2⟩
end CAL2
def st_ch (w k : Nat) : Int32 := (((st_byt.getD w []).getD k 0 &&& 255).toUInt32 % 65536).toInt32
theorem st_chn : ∀ w, w < 10 → ∀ k, k < 5 → narrow .char (.int (st_ch w k)) = .int (st_ch w k) := by decide +kernel
theorem st_shr : ∀ w, w < 10 → nI (st_len.getD w 0) >>> ((0 : Int32) &&& 31) = nI (st_len.getD w 0) := by decide +kernel
theorem st_le : ∀ w, w < 10 → st_len.getD w 0 ≤ 5 := by decide +kernel
abbrev rmJc : Room := { frames := 0, cells := 0, slots := 0, locals := 0 }

set_option maxHeartbeats 4000000 in
set_option maxRecDepth 100000 in
theorem c_J0_coder_7d493 (l : Launch) (D : va_G) (K : Nat → ClassId) (w : Nat) (hw : w < 10) : Mi_ l yJ0_coder_7d493 wsJ0_coder_7d493 rmJc D K [.ref (K (100 + w))] [] [] 0 := by
  refine en_t .byte (cc := cJ0_coder_7d493) (maxL := 1) (own := RJ0) (by decide) rfl rfl (Nat.le_of_ble_eq_true rfl) ?_
  intro p e s m args below meth c A Q H locs ls C0 hP hD hS hl HR
  obtain ⟨⟨hx, hb, hml, hown, hts⟩, hK, -⟩ := id C0
  obtain ⟨-, -, -, -, ⟨hE, hRf⟩, hZ, -, -, hQ⟩ := id C0.2.2.2
  have hl : lv_has ls 1 [(0, .ref (K (100 + w)))] := hl
  refine va_gets hx hb hZ hS hown (hts (.fieldLink RJ0 38 "java/lang/String" "COMPACT_STRINGS" "Z") (by decide +kernel)) (fun _ h9 => h9) dJ0_coder_7d493_0 ?_
  refine lv_if_eq (tgt := 13) hx hb dJ0_coder_7d493_3 (by decide) (fun c_1 => absurd c_1 (by decide)) (fun c_1 => ?_)
  refine lv_aload_n hx hb dJ0_coder_7d493_6 rfl (lv_at hl 0 rfl) ?_
  refine vk_getf hx hb (hE.1 w hw).2.1 hS hown (hts (.fieldLink RJ0 15 "java/lang/String" "coder" "B") (by decide +kernel)) (fun _ h9 => h9) dJ0_coder_7d493_7 ?_
  refine lv_goto (tgt := 14) hx hb dJ0_coder_7d493_10 (by decide) ?_
  exact HR 14 H locs ls dJ0_coder_7d493_14 (by decide) hP hD hS

set_option maxHeartbeats 4000000 in
set_option maxRecDepth 100000 in
theorem c_J0_isLatin1_aae02 (l : Launch) (D : va_G) (K : Nat → ClassId) (w : Nat) (hw : w < 10) : Mi_ l yJ0_isLatin1_aae02 wsJ0_isLatin1_aae02 rmJc D K [.ref (K (100 + w))] [] [] 1 := by
  refine en_t .boolean (cc := cJ0_isLatin1_aae02) (maxL := 1) (own := RJ0) (by decide) rfl rfl (Nat.le_of_ble_eq_true rfl) ?_
  intro p e s m args below meth c A Q H locs ls C0 hP hD hS hl HR
  obtain ⟨⟨hx, hb, hml, hown, hts⟩, hK, -⟩ := id C0
  obtain ⟨-, -, -, -, ⟨hE, hRf⟩, hZ, -, -, hQ⟩ := id C0.2.2.2
  have hl : lv_has ls 1 [(0, .ref (K (100 + w)))] := hl
  refine va_gets hx hb hZ hS hown (hts (.fieldLink RJ0 38 "java/lang/String" "COMPACT_STRINGS" "Z") (by decide +kernel)) (fun _ h9 => h9) dJ0_isLatin1_aae02_0 ?_
  refine lv_if_eq (tgt := 17) hx hb dJ0_isLatin1_aae02_3 (by decide) (fun c_1 => absurd c_1 (by decide)) (fun c_1 => ?_)
  refine lv_aload_n hx hb dJ0_isLatin1_aae02_6 rfl (lv_at hl 0 rfl) ?_
  refine vk_getf hx hb (hE.1 w hw).2.1 hS hown (hts (.fieldLink RJ0 15 "java/lang/String" "coder" "B") (by decide +kernel)) (fun _ h9 => h9) dJ0_isLatin1_aae02_7 ?_
  refine lv_if_ne (tgt := 17) hx hb dJ0_isLatin1_aae02_10 (by decide) (fun c_1 => absurd rfl c_1) (fun c_1 => ?_)
  refine lv_iconst (v := 1) hx hb dJ0_isLatin1_aae02_13 (by decide) ?_
  refine lv_goto (tgt := 18) hx hb dJ0_isLatin1_aae02_14 (by decide) ?_
  exact HR 18 H locs ls dJ0_isLatin1_aae02_18 (by decide) hP hD hS

abbrev rmJl : Room := { frames := 1, cells := 0, slots := 0, locals := 20 }

set_option maxHeartbeats 4000000 in
set_option maxRecDepth 100000 in
theorem c_J0_length_8abf5 (l : Launch) (D : va_G) (K : Nat → ClassId) (w : Nat) (hw : w < 10) : Mi_ l yJ0_length_8abf5 wsJ0_length_8abf5 rmJl D K [.ref (K (100 + w))] [] [] (nI (st_len.getD w 0)) := by
  refine en_i (cc := cJ0_length_8abf5) (maxL := 1) (own := RJ0) (by decide) rfl rfl (Nat.le_of_ble_eq_true rfl) ?_
  intro p e s m args below meth c A Q H locs ls C0 hP hD hS hl HR
  obtain ⟨⟨hx, hb, hml, hown, hts⟩, hK, -⟩ := id C0
  obtain ⟨-, -, -, -, ⟨hE, hRf⟩, hZ, -, -, hQ⟩ := id C0.2.2.2
  have hl : lv_has ls 1 [(0, .ref (K (100 + w)))] := hl
  refine lv_aload_n hx hb dJ0_length_8abf5_0 rfl (lv_at hl 0 rfl) ?_
  refine vk_getf hx hb (hE.1 w hw).2.2.1 hS hown (hts (.fieldLink RJ0 9 "java/lang/String" "value" "[B") (by decide +kernel)) (fun _ h9 => h9) dJ0_length_8abf5_1 ?_
  refine va_tlen (v := nI (st_len.getD w 0)) hx hb (hE.1 w hw).2.2.2 hS rfl dJ0_length_8abf5_4 ?_
  refine lv_aload_n hx hb dJ0_length_8abf5_5 rfl (lv_at hl 0 rfl) ?_
  refine xc_i (wn := []) hP hD hS C0.2.2.1 [] [] [] rfl rfl (by decide) (by decide) rfl (by decide) (va_runV (As := []) (rest := [.int (nI (st_len.getD w 0))]) C0.1 (c_J0_coder_7d493 l D K w hw H.size) (cwV 0 hts gJ0_length_8abf5_J0_coder_7d493 rfl rfl rfl (by decide +kernel) ⟨Nat.le_of_ble_eq_true rfl, Nat.le_of_ble_eq_true rfl⟩) (xp_K hw C0.2 hP hD hS) rfl rfl hl.1 rfl (lv_room (Nat.le_of_ble_eq_true rfl)) dJ0_length_8abf5_6 ⟨Nat.le_of_ble_eq_true rfl, Nat.le_of_ble_eq_true rfl⟩) (fun H locs hP hD hS => ?_)
  refine lv_ishr hx hb dJ0_length_8abf5_9 ?_
  rw [st_shr w hw]
  exact HR 10 H locs ls dJ0_length_8abf5_10 hP hD hS

set_option maxHeartbeats 4000000 in
set_option maxRecDepth 100000 in
theorem c_J3_checkIndex_8e157 (l : Launch) (D : va_G) (K : Nat → ClassId) (i n : Int32) (v : Value) (hv : v = .null ∨ ∃ t, v = .ref t) (h0 : ¬ i < 0) (h1 : i < n) : Mi_ l yJ3_checkIndex_8e157 wsJ3_checkIndex_8e157 rmJc D K [.int i, .int n, v] [] [] i := by
  have hz : (lg_sl [.int i, .int n, v]).length ≤ 3 := by rcases hv with rfl | ⟨t, rfl⟩ <;> exact Nat.le_of_ble_eq_true rfl
  refine en_i (cc := cJ3_checkIndex_8e157) (maxL := 3) (own := RJ3) (by decide) rfl rfl hz ?_
  intro p e s m args below meth c A Q H locs ls C0 hP hD hS hl HR
  obtain ⟨⟨hx, hb, hml, hown, hts⟩, hK, -⟩ := id C0
  obtain ⟨-, -, -, -, ⟨hE, hRf⟩, hZ, -, -, hQ⟩ := id C0.2.2.2
  have hl : lv_has ls 3 [(0, .int i), (1, .int n), (2, v)] := hl
  refine lv_iload_n hx hb dJ3_checkIndex_8e157_0 rfl (lv_at hl 0 rfl) ?_
  refine lv_if_lt (tgt := 9) hx hb dJ3_checkIndex_8e157_1 (by decide) (fun c_1 => absurd c_1 h0) (fun c_1 => ?_)
  refine lv_iload_n hx hb dJ3_checkIndex_8e157_4 rfl (lv_at hl 0 rfl) ?_
  refine lv_iload_n hx hb dJ3_checkIndex_8e157_5 rfl (lv_at hl 1 rfl) ?_
  refine lv_icmp_lt (tgt := 16) hx hb dJ3_checkIndex_8e157_6 (by decide) (fun c_1 => ?_) (fun c_1 => absurd h1 c_1)
  refine lv_iload_n hx hb dJ3_checkIndex_8e157_16 rfl (lv_at hl 0 rfl) ?_
  exact HR 17 H locs ls dJ3_checkIndex_8e157_17 hP hD hS

abbrev rmJi : Room := { frames := 1, cells := 0, slots := 0, locals := 22 }

set_option maxHeartbeats 4000000 in
set_option maxRecDepth 100000 in
theorem c_J0_checkIndex_df160 (l : Launch) (D : va_G) (K : Nat → ClassId) (i n : Int32) (h0 : ¬ i < 0) (h1 : i < n) : Mv_ l yJ0_checkIndex_df160 wsJ0_checkIndex_df160 rmJi D K [.int i, .int n] [] [] := by
  refine en_v (cc := cJ0_checkIndex_df160) (maxL := 2) (own := RJ0) (by decide) rfl rfl (Nat.le_of_ble_eq_true rfl) ?_
  intro p e s m args below meth c A Q H locs ls C0 hP hD hS hl HR
  obtain ⟨⟨hx, hb, hml, hown, hts⟩, hK, -⟩ := id C0
  obtain ⟨-, -, -, -, ⟨hE, hRf⟩, hZ, -, -, hQ⟩ := id C0.2.2.2
  have hl : lv_has ls 2 [(0, .int i), (1, .int n)] := hl
  refine lv_iload_n hx hb dJ0_checkIndex_df160_0 rfl (lv_at hl 0 rfl) ?_
  refine lv_iload_n hx hb dJ0_checkIndex_df160_1 rfl (lv_at hl 1 rfl) ?_
  rcases hQ with h9 | ⟨t9, h9⟩
  · refine va_gets hx hb h9 hS hown (hts (.fieldLink RJ0 1053 "jdk/internal/util/Preconditions" "SIOOBE_FORMATTER" "Ljava/util/function/BiFunction;") (by decide +kernel)) (fun _ h9 => h9) dJ0_checkIndex_df160_2 ?_
    refine xc_i (wn := []) hP hD hS C0.2.2.1 [] [] [] rfl rfl (by decide) (by decide) rfl (by decide) (va_runS (As := [.int i, .int n, .null]) (rest := []) C0.1 (c_J3_checkIndex_8e157 l D K i n (.null) (Or.inl rfl) h0 h1 H.size) (va_cwS 3 hts gJ0_checkIndex_df160_J3_checkIndex_8e157 rfl rfl rfl (by decide +kernel) ⟨Nat.le_of_ble_eq_true rfl, Nat.le_of_ble_eq_true rfl⟩) (xp_S C0.2 hP hD hS [] rfl (by decide)) rfl rfl hl.1 rfl (lv_room (Nat.le_of_ble_eq_true rfl)) dJ0_checkIndex_df160_5 ⟨Nat.le_of_ble_eq_true rfl, Nat.le_of_ble_eq_true rfl⟩) (fun H locs hP hD hS => ?_)
    refine lv_pop hx hb dJ0_checkIndex_df160_8 rfl ?_
    exact HR 9 H locs ls dJ0_checkIndex_df160_9 hP hD hS
  · refine va_gets hx hb h9 hS hown (hts (.fieldLink RJ0 1053 "jdk/internal/util/Preconditions" "SIOOBE_FORMATTER" "Ljava/util/function/BiFunction;") (by decide +kernel)) (fun _ h9 => h9) dJ0_checkIndex_df160_2 ?_
    refine xc_i (wn := []) hP hD hS C0.2.2.1 [] [] [] rfl rfl (by decide) (by decide) rfl (by decide) (va_runS (As := [.int i, .int n, .ref t9]) (rest := []) C0.1 (c_J3_checkIndex_8e157 l D K i n (.ref t9) (Or.inr ⟨t9, rfl⟩) h0 h1 H.size) (va_cwS 3 hts gJ0_checkIndex_df160_J3_checkIndex_8e157 rfl rfl rfl (by decide +kernel) ⟨Nat.le_of_ble_eq_true rfl, Nat.le_of_ble_eq_true rfl⟩) (xp_S C0.2 hP hD hS [] rfl (by decide)) rfl rfl hl.1 rfl (lv_room (Nat.le_of_ble_eq_true rfl)) dJ0_checkIndex_df160_5 ⟨Nat.le_of_ble_eq_true rfl, Nat.le_of_ble_eq_true rfl⟩) (fun H locs hP hD hS => ?_)
    refine lv_pop hx hb dJ0_checkIndex_df160_8 rfl ?_
    exact HR 9 H locs ls dJ0_checkIndex_df160_9 hP hD hS

abbrev rmJ1 : Room := { frames := 2, cells := 0, slots := 0, locals := 43 }

set_option maxHeartbeats 4000000 in
set_option maxRecDepth 100000 in
theorem c_J1_charAt_3b067 (l : Launch) (D : va_G) (K : Nat → ClassId) (w : Nat) (hw : w < 10) (i : Int32) (hi : in_b i (st_len.getD w 0) = true) : Mi_ l yJ1_charAt_3b067 wsJ1_charAt_3b067 rmJ1 D K [.ref (K (200 + w)), .int i] [] [] (st_ch w i.toNatClampNeg) := by
  have h0 : ¬ i < 0 := fun h => (in_v hi) (Or.inl h)
  have hlt := in_lt hi
  have h5 := st_le w hw
  have h1 : i < nI (st_len.getD w 0) := by
    obtain ⟨j, hj, rfl⟩ := nI_of h0
    rw [nI_clamp hj] at hlt
    exact nI_lt hlt (by omega)
  refine en_t .char (cc := cJ1_charAt_3b067) (maxL := 2) (own := RJ1) (by decide) rfl rfl (Nat.le_of_ble_eq_true rfl) ?_
  intro p e s m args below meth c A Q H locs ls C0 hP hD hS hl HR
  obtain ⟨⟨hx, hb, hml, hown, hts⟩, hK, -⟩ := id C0
  obtain ⟨-, -, -, -, ⟨hE, hRf⟩, hZ, -, -, hQ⟩ := id C0.2.2.2
  have hl : lv_has ls 2 [(0, .ref (K (200 + w))), (1, .int i)] := hl
  refine lv_iload_n hx hb dJ1_charAt_3b067_0 rfl (lv_at hl 1 rfl) ?_
  refine lv_aload_n hx hb dJ1_charAt_3b067_1 rfl (lv_at hl 0 rfl) ?_
  refine va_tlen (v := nI (st_len.getD w 0)) hx hb (hE.1 w hw).2.2.2 hS rfl dJ1_charAt_3b067_2 ?_
  refine xc_v (wn := []) hP hD hS C0.2.2.1 [] [] [] rfl rfl (by decide) (by decide) rfl (by decide) (va_runS (As := [.int i, .int (nI (st_len.getD w 0))]) (rest := []) C0.1 (c_J0_checkIndex_df160 l D K i (nI (st_len.getD w 0)) h0 h1 H.size) (va_cwS 2 hts gJ1_charAt_3b067_J0_checkIndex_df160 rfl rfl rfl (by decide +kernel) ⟨Nat.le_of_ble_eq_true rfl, Nat.le_of_ble_eq_true rfl⟩) (xp_S C0.2 hP hD hS [] rfl (by decide)) rfl rfl hl.1 rfl (lv_room (Nat.le_of_ble_eq_true rfl)) dJ1_charAt_3b067_3 ⟨Nat.le_of_ble_eq_true rfl, Nat.le_of_ble_eq_true rfl⟩) (fun H locs hP hD hS => ?_)
  refine lv_aload_n hx hb dJ1_charAt_3b067_6 rfl (lv_at hl 0 rfl) ?_
  refine lv_iload_n hx hb dJ1_charAt_3b067_7 rfl (lv_at hl 1 rfl) ?_
  refine va_tb (v := .int ((st_byt.getD w []).getD i.toNatClampNeg 0)) hx hb (hE.1 w hw).2.2.2 hS (in_v hi) rfl dJ1_charAt_3b067_8 ?_
  refine lv_sipush (v := 255) hx hb dJ1_charAt_3b067_9 (by decide) ?_
  refine lv_iand hx hb dJ1_charAt_3b067_12 ?_
  refine lv_i2c hx hb dJ1_charAt_3b067_13 rfl ?_
  exact HR 14 H locs ls dJ1_charAt_3b067_14 (st_chn w hw _ (by omega)) hP hD hS

abbrev rmJ0 : Room := { frames := 3, cells := 0, slots := 0, locals := 64 }

set_option maxHeartbeats 4000000 in
set_option maxRecDepth 100000 in
theorem c_J0_charAt_5068e (l : Launch) (D : va_G) (K : Nat → ClassId) (w : Nat) (hw : w < 10) (i : Int32) (hi : in_b i (st_len.getD w 0) = true) : Mi_ l yJ0_charAt_5068e wsJ0_charAt_5068e rmJ0 D K [.ref (K (100 + w)), .int i] [] [] (st_ch w i.toNatClampNeg) := by
  have hlt := in_lt hi
  have h5 := st_le w hw
  refine en_t .char (cc := cJ0_charAt_5068e) (maxL := 2) (own := RJ0) (by decide) rfl rfl (Nat.le_of_ble_eq_true rfl) ?_
  intro p e s m args below meth c A Q H locs ls C0 hP hD hS hl HR
  obtain ⟨⟨hx, hb, hml, hown, hts⟩, hK, -⟩ := id C0
  obtain ⟨-, -, -, -, ⟨hE, hRf⟩, hZ, -, -, hQ⟩ := id C0.2.2.2
  have hl : lv_has ls 2 [(0, .ref (K (100 + w))), (1, .int i)] := hl
  refine lv_aload_n hx hb dJ0_charAt_5068e_0 rfl (lv_at hl 0 rfl) ?_
  refine xc_i (wn := []) hP hD hS C0.2.2.1 [] [] [] rfl rfl (by decide) (by decide) rfl (by decide) (va_runV (As := []) (rest := []) C0.1 (c_J0_isLatin1_aae02 l D K w hw H.size) (cwV 0 hts gJ0_charAt_5068e_J0_isLatin1_aae02 rfl rfl rfl (by decide +kernel) ⟨Nat.le_of_ble_eq_true rfl, Nat.le_of_ble_eq_true rfl⟩) (xp_K hw C0.2 hP hD hS) rfl rfl hl.1 rfl (lv_room (Nat.le_of_ble_eq_true rfl)) dJ0_charAt_5068e_1 ⟨Nat.le_of_ble_eq_true rfl, Nat.le_of_ble_eq_true rfl⟩) (fun H locs hP hD hS => ?_)
  refine lv_if_eq (tgt := 16) hx hb dJ0_charAt_5068e_4 (by decide) (fun c_1 => absurd c_1 (by decide)) (fun c_1 => ?_)
  refine lv_aload_n hx hb dJ0_charAt_5068e_7 rfl (lv_at hl 0 rfl) ?_
  refine vk_getf hx hb (hE.1 w hw).2.2.1 hS hown (hts (.fieldLink RJ0 9 "java/lang/String" "value" "[B") (by decide +kernel)) (fun _ h9 => h9) dJ0_charAt_5068e_8 ?_
  refine lv_iload_n hx hb dJ0_charAt_5068e_11 rfl (lv_at hl 1 rfl) ?_
  refine xc_i (wn := []) hP hD hS C0.2.2.1 [] [] [] rfl rfl (by decide) (by decide) rfl (by decide) (va_runS (As := [.ref (K (200 + w)), .int i]) (rest := []) C0.1 (c_J1_charAt_3b067 l D K w hw i hi H.size) (va_cwS 2 hts gJ0_charAt_5068e_J1_charAt_3b067 rfl rfl rfl (by decide +kernel) ⟨Nat.le_of_ble_eq_true rfl, Nat.le_of_ble_eq_true rfl⟩) (xp_S C0.2 hP hD hS [] rfl (by decide)) rfl rfl hl.1 rfl (lv_room (Nat.le_of_ble_eq_true rfl)) dJ0_charAt_5068e_12 ⟨Nat.le_of_ble_eq_true rfl, Nat.le_of_ble_eq_true rfl⟩) (fun H locs hP hD hS => ?_)
  exact HR 15 H locs ls dJ0_charAt_5068e_15 (st_chn w hw _ (by omega)) hP hD hS

/-! StaggerRadar.Reader.isSpelled -/
abbrev rmX6_isSpelled : Room := { frames := 4, cells := 0, slots := 0, locals := 85 }
abbrev w_X6_isSpelled (K : Nat → ClassId) (g_t g_p1 : Nat → Nat) (t_next t_kind t_start t_value t_faultKind t_faultPlace p1_size p1_faultKind p1_faultPlace : Int32) (p1_bytes : Nat → Int32) : va_W := [((g_t 0), .inr (6, [.ref (g_t 1), .int t_next, .int t_kind, .int t_start, .int t_value, .int t_faultKind, .int t_faultPlace])), ((g_p1 0), .inr (7, [.ref (g_p1 1), .int p1_size, .int p1_faultKind, .int p1_faultPlace])), ((g_p1 1), .inl (K 0, 400, .inl p1_bytes))]
theorem fl_X6_isSpelled_22 : Cond.fieldLink RX6 22 "StaggerRadar$Reader" "next" "I" ∈ wsX6_isSpelled := by decide +kernel
theorem fl_X6_isSpelled_67 : Cond.fieldLink RX6 67 "StaggerRadar$Reader" "start" "I" ∈ wsX6_isSpelled := by decide +kernel
theorem fl_X6_isSpelled_113 : Cond.fieldLink RX6 113 "StaggerRadar$Text" "bytes" "[I" ∈ wsX6_isSpelled := by decide +kernel
theorem iw_X6_isSpelled_X6 : ∀ w ∈ u_ws RX6 TX6 7, w ∈ wsX6_isSpelled := by decide +kernel
theorem iw_X6_isSpelled_X8 : ∀ w ∈ u_ws RX8 TX8 4, w ∈ wsX6_isSpelled := by decide +kernel
def L_X6_isSpelled_23 (t_start : Int32) (p1_bytes : Nat → Int32) (w : Nat) (x3 : Int32) : Nat → Int32 → Option Int32
  | 0, _ => none
  | n_ + 1, x4 => if x3 ≤ x4 then (some (1 : Int32)) else (gd_ (in_b (t_start + x4) 400) (gd_ (in_b x4 (st_len.getD w 0)) (if (p1_bytes (t_start + x4).toNatClampNeg) = st_ch w x4.toNatClampNeg then (L_X6_isSpelled_23 t_start p1_bytes w x3 n_ (x4 + (1 : Int32))) else (some (0 : Int32)))))
def F_X6_isSpelled (t_next t_start : Int32) (p1_bytes : Nat → Int32) (w : Nat) : Option Int32 :=
  if (t_next - t_start) = nI (st_len.getD w 0) then (L_X6_isSpelled_23 t_start p1_bytes w (t_next - t_start) fu_ (0 : Int32)) else (some (0 : Int32))

set_option maxHeartbeats 4000000 in
set_option maxRecDepth 100000 in
theorem w_X6_isSpelled_23 {p : Program} {l : Launch} {e : Env} {s : State} {m : MethodId} {args : Array Value} {below : List Frame} {meth : Method} {c : Code} {D : va_G} {K : Nat → ClassId} {A : Nat → Prop} {Q : State → Prop} (C0 : cx_ p s m args c cX6_isSpelled 5 RX6 wsX6_isSpelled D K A) {g_t g_p1 : Nat → Nat} {t_next t_kind t_start t_value t_faultKind t_faultPlace p1_size p1_faultKind p1_faultPlace : Int32} {p1_bytes : Nat → Int32} {w : Nat} (hw : w < 10) {x3 : Int32} {res : Int32} (HR : ∀ (pc : Nat) (H : Heap) (locs : List Loc) (ls : Array Slot), decode cX6_isSpelled pc = .ok (.ireturn, 1) → narrow .boolean (.int res) = .int res → va_P D vwCl (w_X6_isSpelled K g_t g_p1 t_next t_kind t_start t_value t_faultKind t_faultPlace p1_size p1_faultKind p1_faultPlace p1_bytes) H → va_D A (w_X6_isSpelled K g_t g_p1 t_next t_kind t_start t_value t_faultKind t_faultPlace p1_size p1_faultKind p1_faultPlace p1_bytes) → va_S A s.heap H locs → W p l e rmX6_isSpelled s m args below meth c H locs 0 0 Q (F0 m pc ls [.int res])) :
    ∀ (n_ : Nat) (x4 : Int32) (H : Heap) (locs : List Loc) (ls : Array Slot), va_P D vwCl (w_X6_isSpelled K g_t g_p1 t_next t_kind t_start t_value t_faultKind t_faultPlace p1_size p1_faultKind p1_faultPlace p1_bytes) H → va_D A (w_X6_isSpelled K g_t g_p1 t_next t_kind t_start t_value t_faultKind t_faultPlace p1_size p1_faultKind p1_faultPlace p1_bytes) → va_S A s.heap H locs → lv_has ls 5 [(0, .ref (g_t 0)), (1, .ref (g_p1 0)), (2, .ref (K (100 + w))), (3, .int x3), (4, .int x4)] → L_X6_isSpelled_23 t_start p1_bytes w x3 n_ x4 = some res → W p l e rmX6_isSpelled s m args below meth c H locs 0 0 Q (F0 m 23 ls []) := by
  obtain ⟨⟨hx, hb, hml, hown, hts⟩, hK, -⟩ := id C0
  intro n_
  induction n_ with
  | zero =>
    intro x4 H locs ls hP hD hS hl hF
    exact no_s (show (none : Option Int32) = some res from hF)
  | succ n_ ih =>
    intro x4 H locs ls hP hD hS hl hF
    rw [L_X6_isSpelled_23] at hF
    refine lv_iload hx hb dX6_isSpelled_23 (lv_at hl 4 rfl) ?_
    refine lv_iload_n hx hb dX6_isSpelled_25 rfl (lv_at hl 3 rfl) ?_
    refine lv_icmp_ge (tgt := 58) hx hb dX6_isSpelled_26 (by decide) (fun c_1 => ?_) (fun c_1 => ?_)
    · have hF := it_pos c_1 hF
      refine lv_iconst (v := 1) hx hb dX6_isSpelled_58 (by decide) ?_
      obtain rfl := Option.some.inj hF
      exact HR 59 H locs ls dX6_isSpelled_59 narrow_b1 hP hD hS
    · have hF := it_neg c_1 hF
      refine lv_aload_n hx hb dX6_isSpelled_29 rfl (lv_at hl 1 rfl) ?_
      refine va_get (D := D) (ci := 7) (v := .ref (g_p1 1)) (C := RX8) (T := TX8) (N := 4) hx hb hts iw_X6_isSpelled_X8 hown hK hP 1 rfl rfl 0 (by decide) (hts _ fl_X6_isSpelled_113) (fun _ h9 => h9) rfl dX6_isSpelled_30 ?_
      refine lv_aload_n hx hb dX6_isSpelled_33 rfl (lv_at hl 0 rfl) ?_
      refine va_get (D := D) (ci := 6) (v := .int t_start) (C := RX6) (T := TX6) (N := 7) hx hb hts iw_X6_isSpelled_X6 hown hK hP 0 rfl rfl 3 (by decide) (hts _ fl_X6_isSpelled_67) (fun _ h9 => h9) rfl dX6_isSpelled_34 ?_
      refine lv_iload hx hb dX6_isSpelled_37 (lv_at hl 4 rfl) ?_
      refine lv_iadd hx hb dX6_isSpelled_39 ?_
      obtain ⟨hg_1, hF⟩ := gd_some hF
      refine xl_i (f := p1_bytes) hx hb hK hP 2 0 rfl rfl rfl (in_v hg_1) dX6_isSpelled_40 ?_
      refine lv_aload_n hx hb dX6_isSpelled_41 rfl (lv_at hl 2 rfl) ?_
      refine lv_iload hx hb dX6_isSpelled_42 (lv_at hl 4 rfl) ?_
      obtain ⟨hg_2, hF⟩ := gd_some hF
      refine xc_i (wn := (w_X6_isSpelled K g_t g_p1 t_next t_kind t_start t_value t_faultKind t_faultPlace p1_size p1_faultKind p1_faultPlace p1_bytes)) hP hD hS C0.2.2.1 [] [0, 1, 2] [0, 1, 2] rfl rfl (by decide) (by decide) rfl (by decide) (va_runV (As := [.int x4]) (rest := [.int (p1_bytes (t_start + x4).toNatClampNeg)]) C0.1 (c_J0_charAt_5068e l D K w hw x4 hg_2 H.size) (cwV 1 hts gX6_isSpelled_J0_charAt_5068e rfl rfl rfl (by decide +kernel) ⟨Nat.le_of_ble_eq_true rfl, Nat.le_of_ble_eq_true rfl⟩) (xp_K hw C0.2 hP hD hS) rfl rfl hl.1 rfl (lv_room (Nat.le_of_ble_eq_true rfl)) dX6_isSpelled_44 ⟨Nat.le_of_ble_eq_true rfl, Nat.le_of_ble_eq_true rfl⟩) (fun H locs hP hD hS => ?_)
      refine lv_icmp_eq (tgt := 52) hx hb dX6_isSpelled_47 (by decide) (fun c_2 => ?_) (fun c_2 => ?_)
      · have hF := it_pos c_2 hF
        refine lv_iinc (v := (x4 + (1 : Int32))) (lv' := [(4, .int (x4 + (1 : Int32))), (0, .ref (g_t 0)), (1, .ref (g_p1 0)), (2, .ref (K (100 + w))), (3, .int x3)]) hx hb dX6_isSpelled_52 hl (k := 4) rfl (congrArg (fun z => x4 + z) (by decide)) (by decide) rfl (fun ls hl => ?_)
        refine lv_goto (tgt := 23) hx hb dX6_isSpelled_55 (by decide) ?_
        exact ih (x4 + (1 : Int32)) H locs ls hP hD hS (lv_sub hl [1, 2, 3, 4, 0] rfl) hF
      · have hF := it_neg c_2 hF
        refine lv_iconst (v := 0) hx hb dX6_isSpelled_50 (by decide) ?_
        obtain rfl := Option.some.inj hF
        exact HR 51 H locs ls dX6_isSpelled_51 narrow_b0 hP hD hS

set_option maxHeartbeats 4000000 in
set_option maxRecDepth 100000 in
theorem c_X6_isSpelled (l : Launch) (D : va_G) (K : Nat → ClassId) (g_t g_p1 : Nat → Nat) (t_next t_kind t_start t_value t_faultKind t_faultPlace p1_size p1_faultKind p1_faultPlace : Int32) (p1_bytes : Nat → Int32) (w : Nat) (hw : w < 10) (res : Int32) (hF : F_X6_isSpelled t_next t_start p1_bytes w = some res) : Mi_ l yX6_isSpelled wsX6_isSpelled rmX6_isSpelled D K [.ref (g_t 0), .ref (g_p1 0), .ref (K (100 + w))] (w_X6_isSpelled K g_t g_p1 t_next t_kind t_start t_value t_faultKind t_faultPlace p1_size p1_faultKind p1_faultPlace p1_bytes) (w_X6_isSpelled K g_t g_p1 t_next t_kind t_start t_value t_faultKind t_faultPlace p1_size p1_faultKind p1_faultPlace p1_bytes) res := by
  refine en_z (cc := cX6_isSpelled) (maxL := 5) (own := RX6) (by decide) rfl rfl (Nat.le_of_ble_eq_true rfl) ?_
  intro p e s m args below meth c A Q H locs ls C0 hP hD hS hl HR
  obtain ⟨⟨hx, hb, hml, hown, hts⟩, hK, -⟩ := id C0
  have hl : lv_has ls 5 [(0, .ref (g_t 0)), (1, .ref (g_p1 0)), (2, .ref (K (100 + w)))] := hl
  unfold F_X6_isSpelled at hF
  refine lv_aload_n hx hb dX6_isSpelled_0 rfl (lv_at hl 0 rfl) ?_
  refine va_get (D := D) (ci := 6) (v := .int t_next) (C := RX6) (T := TX6) (N := 7) hx hb hts iw_X6_isSpelled_X6 hown hK hP 0 rfl rfl 1 (by decide) (hts _ fl_X6_isSpelled_22) (fun _ h9 => h9) rfl dX6_isSpelled_1 ?_
  refine lv_aload_n hx hb dX6_isSpelled_4 rfl (lv_at hl 0 rfl) ?_
  refine va_get (D := D) (ci := 6) (v := .int t_start) (C := RX6) (T := TX6) (N := 7) hx hb hts iw_X6_isSpelled_X6 hown hK hP 0 rfl rfl 3 (by decide) (hts _ fl_X6_isSpelled_67) (fun _ h9 => h9) rfl dX6_isSpelled_5 ?_
  refine lv_isub hx hb dX6_isSpelled_8 ?_
  refine lv_istore_n (lv' := [(3, .int (t_next - t_start)), (0, .ref (g_t 0)), (1, .ref (g_p1 0)), (2, .ref (K (100 + w)))]) hx hb dX6_isSpelled_9 rfl hl (by decide) rfl (fun ls hl => ?_)
  refine lv_iload_n hx hb dX6_isSpelled_10 rfl (lv_at hl 0 rfl) ?_
  refine lv_aload_n hx hb dX6_isSpelled_11 rfl (lv_at hl 3 rfl) ?_
  refine xc_i (wn := (w_X6_isSpelled K g_t g_p1 t_next t_kind t_start t_value t_faultKind t_faultPlace p1_size p1_faultKind p1_faultPlace p1_bytes)) hP hD hS C0.2.2.1 [] [0, 1, 2] [0, 1, 2] rfl rfl (by decide) (by decide) rfl (by decide) (va_runV (As := []) (rest := [.int (t_next - t_start)]) C0.1 (c_J0_length_8abf5 l D K w hw H.size) (cwV 0 hts gX6_isSpelled_J0_length_8abf5 rfl rfl rfl (by decide +kernel) ⟨Nat.le_of_ble_eq_true rfl, Nat.le_of_ble_eq_true rfl⟩) (xp_K hw C0.2 hP hD hS) rfl rfl hl.1 rfl (lv_room (Nat.le_of_ble_eq_true rfl)) dX6_isSpelled_12 ⟨Nat.le_of_ble_eq_true rfl, Nat.le_of_ble_eq_true rfl⟩) (fun H locs hP hD hS => ?_)
  refine lv_icmp_eq (tgt := 20) hx hb dX6_isSpelled_15 (by decide) (fun c_1 => ?_) (fun c_1 => ?_)
  · have hF := it_pos c_1 hF
    refine lv_iconst (v := 0) hx hb dX6_isSpelled_20 (by decide) ?_
    refine lv_istore (lv' := [(4, .int (0 : Int32)), (3, .int (t_next - t_start)), (0, .ref (g_t 0)), (1, .ref (g_p1 0)), (2, .ref (K (100 + w)))]) hx hb dX6_isSpelled_21 hl (by decide) rfl (fun ls hl => ?_)
    exact w_X6_isSpelled_23 C0 hw HR fu_ (0 : Int32) H locs ls hP hD hS (lv_sub hl [2, 3, 4, 1, 0] rfl) hF
  · have hF := it_neg c_1 hF
    refine lv_iconst (v := 0) hx hb dX6_isSpelled_18 (by decide) ?_
    obtain rfl := Option.some.inj hF
    exact HR 19 H locs ls dX6_isSpelled_19 narrow_b0 hP hD hS

set_option maxHeartbeats 4000000 in
set_option maxRecDepth 100000 in
theorem c_X6_lettersOf_0 (l : Launch) (D : va_G) (K : Nat → ClassId) : Mr_ l yX6_lettersOf wsX6_lettersOf rmJc D K [.int 0] [] [] (K (100 + 0)) := by
  refine en_r (cn := "java/lang/String") (cc := cX6_lettersOf) (maxL := 1) (own := RX6) (by decide) rfl rfl (Nat.le_of_ble_eq_true rfl) ?_
  intro p e s m args below meth c A Q H locs ls C0 hP hD hS hl HR
  obtain ⟨⟨hx, hb, hml, hown, hts⟩, hK, -⟩ := id C0
  obtain ⟨-, -, -, -, ⟨hE, hRf⟩, hZ, -, -, hQ⟩ := id C0.2.2.2
  have hl : lv_has ls 1 [(0, .int 0)] := hl
  refine lv_iload_n hx hb dX6_lettersOf_0 rfl (lv_at hl 0 rfl) ?_
  refine lv_tableIn (off := 51) (tgt := 52) hx hb dX6_lettersOf_1 (by decide) (by decide) rfl (by decide) ?_
  refine va_ldcS hx hb hown (hRf 0 (by decide)) dX6_lettersOf_52 ?_
  exact HR 54 H locs ls dX6_lettersOf_54 hP hD hS

set_option maxHeartbeats 4000000 in
set_option maxRecDepth 100000 in
theorem c_X6_lettersOf_1 (l : Launch) (D : va_G) (K : Nat → ClassId) : Mr_ l yX6_lettersOf wsX6_lettersOf rmJc D K [.int 1] [] [] (K (100 + 1)) := by
  refine en_r (cn := "java/lang/String") (cc := cX6_lettersOf) (maxL := 1) (own := RX6) (by decide) rfl rfl (Nat.le_of_ble_eq_true rfl) ?_
  intro p e s m args below meth c A Q H locs ls C0 hP hD hS hl HR
  obtain ⟨⟨hx, hb, hml, hown, hts⟩, hK, -⟩ := id C0
  obtain ⟨-, -, -, -, ⟨hE, hRf⟩, hZ, -, -, hQ⟩ := id C0.2.2.2
  have hl : lv_has ls 1 [(0, .int 1)] := hl
  refine lv_iload_n hx hb dX6_lettersOf_0 rfl (lv_at hl 0 rfl) ?_
  refine lv_tableIn (off := 54) (tgt := 55) hx hb dX6_lettersOf_1 (by decide) (by decide) rfl (by decide) ?_
  refine va_ldcS hx hb hown (hRf 1 (by decide)) dX6_lettersOf_55 ?_
  exact HR 57 H locs ls dX6_lettersOf_57 hP hD hS

set_option maxHeartbeats 4000000 in
set_option maxRecDepth 100000 in
theorem c_X6_lettersOf_2 (l : Launch) (D : va_G) (K : Nat → ClassId) : Mr_ l yX6_lettersOf wsX6_lettersOf rmJc D K [.int 2] [] [] (K (100 + 2)) := by
  refine en_r (cn := "java/lang/String") (cc := cX6_lettersOf) (maxL := 1) (own := RX6) (by decide) rfl rfl (Nat.le_of_ble_eq_true rfl) ?_
  intro p e s m args below meth c A Q H locs ls C0 hP hD hS hl HR
  obtain ⟨⟨hx, hb, hml, hown, hts⟩, hK, -⟩ := id C0
  obtain ⟨-, -, -, -, ⟨hE, hRf⟩, hZ, -, -, hQ⟩ := id C0.2.2.2
  have hl : lv_has ls 1 [(0, .int 2)] := hl
  refine lv_iload_n hx hb dX6_lettersOf_0 rfl (lv_at hl 0 rfl) ?_
  refine lv_tableIn (off := 57) (tgt := 58) hx hb dX6_lettersOf_1 (by decide) (by decide) rfl (by decide) ?_
  refine va_ldcS hx hb hown (hRf 2 (by decide)) dX6_lettersOf_58 ?_
  exact HR 60 H locs ls dX6_lettersOf_60 hP hD hS

set_option maxHeartbeats 4000000 in
set_option maxRecDepth 100000 in
theorem c_X6_lettersOf_3 (l : Launch) (D : va_G) (K : Nat → ClassId) : Mr_ l yX6_lettersOf wsX6_lettersOf rmJc D K [.int 3] [] [] (K (100 + 3)) := by
  refine en_r (cn := "java/lang/String") (cc := cX6_lettersOf) (maxL := 1) (own := RX6) (by decide) rfl rfl (Nat.le_of_ble_eq_true rfl) ?_
  intro p e s m args below meth c A Q H locs ls C0 hP hD hS hl HR
  obtain ⟨⟨hx, hb, hml, hown, hts⟩, hK, -⟩ := id C0
  obtain ⟨-, -, -, -, ⟨hE, hRf⟩, hZ, -, -, hQ⟩ := id C0.2.2.2
  have hl : lv_has ls 1 [(0, .int 3)] := hl
  refine lv_iload_n hx hb dX6_lettersOf_0 rfl (lv_at hl 0 rfl) ?_
  refine lv_tableIn (off := 60) (tgt := 61) hx hb dX6_lettersOf_1 (by decide) (by decide) rfl (by decide) ?_
  refine va_ldcS hx hb hown (hRf 3 (by decide)) dX6_lettersOf_61 ?_
  exact HR 63 H locs ls dX6_lettersOf_63 hP hD hS

set_option maxHeartbeats 4000000 in
set_option maxRecDepth 100000 in
theorem c_X6_lettersOf_4 (l : Launch) (D : va_G) (K : Nat → ClassId) : Mr_ l yX6_lettersOf wsX6_lettersOf rmJc D K [.int 4] [] [] (K (100 + 4)) := by
  refine en_r (cn := "java/lang/String") (cc := cX6_lettersOf) (maxL := 1) (own := RX6) (by decide) rfl rfl (Nat.le_of_ble_eq_true rfl) ?_
  intro p e s m args below meth c A Q H locs ls C0 hP hD hS hl HR
  obtain ⟨⟨hx, hb, hml, hown, hts⟩, hK, -⟩ := id C0
  obtain ⟨-, -, -, -, ⟨hE, hRf⟩, hZ, -, -, hQ⟩ := id C0.2.2.2
  have hl : lv_has ls 1 [(0, .int 4)] := hl
  refine lv_iload_n hx hb dX6_lettersOf_0 rfl (lv_at hl 0 rfl) ?_
  refine lv_tableIn (off := 63) (tgt := 64) hx hb dX6_lettersOf_1 (by decide) (by decide) rfl (by decide) ?_
  refine va_ldcS hx hb hown (hRf 4 (by decide)) dX6_lettersOf_64 ?_
  exact HR 66 H locs ls dX6_lettersOf_66 hP hD hS

set_option maxHeartbeats 4000000 in
set_option maxRecDepth 100000 in
theorem c_X6_lettersOf_5 (l : Launch) (D : va_G) (K : Nat → ClassId) : Mr_ l yX6_lettersOf wsX6_lettersOf rmJc D K [.int 5] [] [] (K (100 + 5)) := by
  refine en_r (cn := "java/lang/String") (cc := cX6_lettersOf) (maxL := 1) (own := RX6) (by decide) rfl rfl (Nat.le_of_ble_eq_true rfl) ?_
  intro p e s m args below meth c A Q H locs ls C0 hP hD hS hl HR
  obtain ⟨⟨hx, hb, hml, hown, hts⟩, hK, -⟩ := id C0
  obtain ⟨-, -, -, -, ⟨hE, hRf⟩, hZ, -, -, hQ⟩ := id C0.2.2.2
  have hl : lv_has ls 1 [(0, .int 5)] := hl
  refine lv_iload_n hx hb dX6_lettersOf_0 rfl (lv_at hl 0 rfl) ?_
  refine lv_tableIn (off := 66) (tgt := 67) hx hb dX6_lettersOf_1 (by decide) (by decide) rfl (by decide) ?_
  refine va_ldcS hx hb hown (hRf 5 (by decide)) dX6_lettersOf_67 ?_
  exact HR 69 H locs ls dX6_lettersOf_69 hP hD hS

set_option maxHeartbeats 4000000 in
set_option maxRecDepth 100000 in
theorem c_X6_lettersOf_6 (l : Launch) (D : va_G) (K : Nat → ClassId) : Mr_ l yX6_lettersOf wsX6_lettersOf rmJc D K [.int 6] [] [] (K (100 + 6)) := by
  refine en_r (cn := "java/lang/String") (cc := cX6_lettersOf) (maxL := 1) (own := RX6) (by decide) rfl rfl (Nat.le_of_ble_eq_true rfl) ?_
  intro p e s m args below meth c A Q H locs ls C0 hP hD hS hl HR
  obtain ⟨⟨hx, hb, hml, hown, hts⟩, hK, -⟩ := id C0
  obtain ⟨-, -, -, -, ⟨hE, hRf⟩, hZ, -, -, hQ⟩ := id C0.2.2.2
  have hl : lv_has ls 1 [(0, .int 6)] := hl
  refine lv_iload_n hx hb dX6_lettersOf_0 rfl (lv_at hl 0 rfl) ?_
  refine lv_tableIn (off := 69) (tgt := 70) hx hb dX6_lettersOf_1 (by decide) (by decide) rfl (by decide) ?_
  refine va_ldcS hx hb hown (hRf 6 (by decide)) dX6_lettersOf_70 ?_
  exact HR 72 H locs ls dX6_lettersOf_72 hP hD hS

set_option maxHeartbeats 4000000 in
set_option maxRecDepth 100000 in
theorem c_X6_lettersOf_7 (l : Launch) (D : va_G) (K : Nat → ClassId) : Mr_ l yX6_lettersOf wsX6_lettersOf rmJc D K [.int 7] [] [] (K (100 + 7)) := by
  refine en_r (cn := "java/lang/String") (cc := cX6_lettersOf) (maxL := 1) (own := RX6) (by decide) rfl rfl (Nat.le_of_ble_eq_true rfl) ?_
  intro p e s m args below meth c A Q H locs ls C0 hP hD hS hl HR
  obtain ⟨⟨hx, hb, hml, hown, hts⟩, hK, -⟩ := id C0
  obtain ⟨-, -, -, -, ⟨hE, hRf⟩, hZ, -, -, hQ⟩ := id C0.2.2.2
  have hl : lv_has ls 1 [(0, .int 7)] := hl
  refine lv_iload_n hx hb dX6_lettersOf_0 rfl (lv_at hl 0 rfl) ?_
  refine lv_tableIn (off := 72) (tgt := 73) hx hb dX6_lettersOf_1 (by decide) (by decide) rfl (by decide) ?_
  refine va_ldcS hx hb hown (hRf 7 (by decide)) dX6_lettersOf_73 ?_
  exact HR 75 H locs ls dX6_lettersOf_75 hP hD hS

set_option maxHeartbeats 4000000 in
set_option maxRecDepth 100000 in
theorem c_X6_lettersOf_8 (l : Launch) (D : va_G) (K : Nat → ClassId) : Mr_ l yX6_lettersOf wsX6_lettersOf rmJc D K [.int 8] [] [] (K (100 + 8)) := by
  refine en_r (cn := "java/lang/String") (cc := cX6_lettersOf) (maxL := 1) (own := RX6) (by decide) rfl rfl (Nat.le_of_ble_eq_true rfl) ?_
  intro p e s m args below meth c A Q H locs ls C0 hP hD hS hl HR
  obtain ⟨⟨hx, hb, hml, hown, hts⟩, hK, -⟩ := id C0
  obtain ⟨-, -, -, -, ⟨hE, hRf⟩, hZ, -, -, hQ⟩ := id C0.2.2.2
  have hl : lv_has ls 1 [(0, .int 8)] := hl
  refine lv_iload_n hx hb dX6_lettersOf_0 rfl (lv_at hl 0 rfl) ?_
  refine lv_tableIn (off := 75) (tgt := 76) hx hb dX6_lettersOf_1 (by decide) (by decide) rfl (by decide) ?_
  refine va_ldcS hx hb hown (hRf 8 (by decide)) dX6_lettersOf_76 ?_
  exact HR 78 H locs ls dX6_lettersOf_78 hP hD hS

set_option maxHeartbeats 4000000 in
set_option maxRecDepth 100000 in
theorem c_X6_lettersOf_9 (l : Launch) (D : va_G) (K : Nat → ClassId) : Mr_ l yX6_lettersOf wsX6_lettersOf rmJc D K [.int 9] [] [] (K (100 + 9)) := by
  refine en_r (cn := "java/lang/String") (cc := cX6_lettersOf) (maxL := 1) (own := RX6) (by decide) rfl rfl (Nat.le_of_ble_eq_true rfl) ?_
  intro p e s m args below meth c A Q H locs ls C0 hP hD hS hl HR
  obtain ⟨⟨hx, hb, hml, hown, hts⟩, hK, -⟩ := id C0
  obtain ⟨-, -, -, -, ⟨hE, hRf⟩, hZ, -, -, hQ⟩ := id C0.2.2.2
  have hl : lv_has ls 1 [(0, .int 9)] := hl
  refine lv_iload_n hx hb dX6_lettersOf_0 rfl (lv_at hl 0 rfl) ?_
  refine lv_tableOut (tgt := 79) hx hb dX6_lettersOf_1 (by decide) (by decide) ?_
  refine va_ldcS hx hb hown (hRf 9 (by decide)) dX6_lettersOf_79 ?_
  exact HR 81 H locs ls dX6_lettersOf_81 hP hD hS

/-! StaggerRadar.Reader.wordOf -/
abbrev rmX6_wordOf : Room := { frames := 14, cells := 0, slots := 0, locals := 500 }
abbrev w_X6_wordOf (K : Nat → ClassId) (g_t g_p1 : Nat → Nat) (t_next t_kind t_start t_value t_faultKind t_faultPlace p1_size p1_faultKind p1_faultPlace : Int32) (p1_bytes : Nat → Int32) : va_W := w_X6_isSpelled K g_t g_p1 t_next t_kind t_start t_value t_faultKind t_faultPlace p1_size p1_faultKind p1_faultPlace p1_bytes
def F_X6_wordOf (t_next t_start : Int32) (p1_bytes : Nat → Int32) : Option Int32 :=
  (F_X6_isSpelled t_next t_start p1_bytes 0).bind fun r_0 => (if r_0 = (0 : Int32) then ((F_X6_isSpelled t_next t_start p1_bytes 1).bind fun r_1 => (if r_1 = (0 : Int32) then ((F_X6_isSpelled t_next t_start p1_bytes 2).bind fun r_2 => (if r_2 = (0 : Int32) then ((F_X6_isSpelled t_next t_start p1_bytes 3).bind fun r_3 => (if r_3 = (0 : Int32) then ((F_X6_isSpelled t_next t_start p1_bytes 4).bind fun r_4 => (if r_4 = (0 : Int32) then ((F_X6_isSpelled t_next t_start p1_bytes 5).bind fun r_5 => (if r_5 = (0 : Int32) then ((F_X6_isSpelled t_next t_start p1_bytes 6).bind fun r_6 => (if r_6 = (0 : Int32) then ((F_X6_isSpelled t_next t_start p1_bytes 7).bind fun r_7 => (if r_7 = (0 : Int32) then ((F_X6_isSpelled t_next t_start p1_bytes 8).bind fun r_8 => (if r_8 = (0 : Int32) then ((F_X6_isSpelled t_next t_start p1_bytes 9).bind fun r_9 => (if r_9 = (0 : Int32) then (some (-1 : Int32)) else (some (9 : Int32)))) else (some (8 : Int32)))) else (some (7 : Int32)))) else (some (6 : Int32)))) else (some (5 : Int32)))) else (some (4 : Int32)))) else (some (3 : Int32)))) else (some (2 : Int32)))) else (some (1 : Int32)))) else (some (0 : Int32)))

set_option maxHeartbeats 4000000 in
set_option maxRecDepth 100000 in
theorem c_X6_wordOf (l : Launch) (D : va_G) (K : Nat → ClassId) (g_t g_p1 : Nat → Nat) (t_next t_kind t_start t_value t_faultKind t_faultPlace p1_size p1_faultKind p1_faultPlace : Int32) (p1_bytes : Nat → Int32) (res : Int32) (hF : F_X6_wordOf t_next t_start p1_bytes = some res) : Mi_ l yX6_wordOf wsX6_wordOf rmX6_wordOf D K [.ref (g_t 0), .ref (g_p1 0)] (w_X6_wordOf K g_t g_p1 t_next t_kind t_start t_value t_faultKind t_faultPlace p1_size p1_faultKind p1_faultPlace p1_bytes) (w_X6_wordOf K g_t g_p1 t_next t_kind t_start t_value t_faultKind t_faultPlace p1_size p1_faultKind p1_faultPlace p1_bytes) res := by
  refine en_i (cc := cX6_wordOf) (maxL := 3) (own := RX6) (by decide) rfl rfl (Nat.le_of_ble_eq_true rfl) ?_
  intro p e s m args below meth c A Q H locs ls C0 hP hD hS hl HR
  obtain ⟨⟨hx, hb, hml, hown, hts⟩, hK, -⟩ := id C0
  have hl : lv_has ls 3 [(0, .ref (g_t 0)), (1, .ref (g_p1 0))] := hl
  unfold F_X6_wordOf at hF
  refine lv_iconst (v := 0) hx hb dX6_wordOf_0 (by decide) ?_
  refine lv_istore_n (lv' := [(2, .int 0), (0, .ref (g_t 0)), (1, .ref (g_p1 0))]) hx hb dX6_wordOf_1 rfl hl (by decide) rfl (fun ls hl => ?_)
  refine lv_iload_n hx hb dX6_wordOf_2 rfl (lv_at hl 0 rfl) ?_
  refine lv_bipush (v := 10) hx hb dX6_wordOf_3 (by decide) ?_
  refine lv_icmp_ge (tgt := 28) hx hb dX6_wordOf_5 (by decide) (fun c_1 => absurd c_1 (by decide)) (fun c_1 => ?_)
  refine lv_aload_n hx hb dX6_wordOf_8 rfl (lv_at hl 1 rfl) ?_
  refine lv_aload_n hx hb dX6_wordOf_9 rfl (lv_at hl 2 rfl) ?_
  refine lv_iload_n hx hb dX6_wordOf_10 rfl (lv_at hl 0 rfl) ?_
  refine xc_r (wn := (w_X6_wordOf K g_t g_p1 t_next t_kind t_start t_value t_faultKind t_faultPlace p1_size p1_faultKind p1_faultPlace p1_bytes)) hP hD hS C0.2.2.1 [] [0, 1, 2] [0, 1, 2] rfl rfl (by decide) (by decide) rfl (by decide) (va_runS (As := [.int 0]) (rest := [.ref (g_p1 0), .ref (g_t 0)]) C0.1 (c_X6_lettersOf_0 l D K H.size) (va_cwS 1 hts gX6_wordOf_X6_lettersOf rfl rfl rfl (by decide +kernel) ⟨Nat.le_of_ble_eq_true rfl, Nat.le_of_ble_eq_true rfl⟩) (xp_S C0.2 hP hD hS [] rfl (by decide)) rfl rfl hl.1 rfl (lv_room (Nat.le_of_ble_eq_true rfl)) dX6_wordOf_11 ⟨Nat.le_of_ble_eq_true rfl, Nat.le_of_ble_eq_true rfl⟩) (fun H locs hP hD hS => ?_)
  obtain ⟨r_0, hc_0, hF⟩ := bn_some hF
  refine xc_i (wn := (w_X6_wordOf K g_t g_p1 t_next t_kind t_start t_value t_faultKind t_faultPlace p1_size p1_faultKind p1_faultPlace p1_bytes)) hP hD hS C0.2.2.1 [0, 1, 2] [] [0, 1, 2] rfl rfl (by decide) (by decide) rfl (by decide) (va_runV (As := [.ref (g_p1 0), .ref (K (100 + 0))]) (rest := []) C0.1 (c_X6_isSpelled l D K g_t g_p1 t_next t_kind t_start t_value t_faultKind t_faultPlace p1_size p1_faultKind p1_faultPlace p1_bytes 0 (by decide) r_0 hc_0 H.size) (cwV 2 hts gX6_wordOf_X6_isSpelled rfl rfl rfl (by decide +kernel) ⟨Nat.le_of_ble_eq_true rfl, Nat.le_of_ble_eq_true rfl⟩) (xp_V C0.2 hP hD hS [0, 1, 2] rfl (by decide) 6 0 rfl rfl rfl) rfl rfl hl.1 rfl (lv_room (Nat.le_of_ble_eq_true rfl)) dX6_wordOf_14 ⟨Nat.le_of_ble_eq_true rfl, Nat.le_of_ble_eq_true rfl⟩) (fun H locs hP hD hS => ?_)
  by_cases c_20 : r_0 = (0 : Int32)
  rotate_left
  · have hF := it_neg c_20 hF
    refine lv_if_eq (tgt := 22) hx hb dX6_wordOf_17 (by decide) (fun c_1 => absurd c_1 c_20) (fun c_1 => ?_)
    refine lv_iload_n hx hb dX6_wordOf_20 rfl (lv_at hl 0 rfl) ?_
    obtain rfl := Option.some.inj hF
    exact HR 21 H locs ls dX6_wordOf_21 hP hD hS
  have hF := it_pos c_20 hF
  refine lv_if_eq (tgt := 22) hx hb dX6_wordOf_17 (by decide) (fun c_1 => ?_) (fun c_1 => absurd c_20 c_1)
  refine lv_iinc (v := 1) (lv' := [(2, .int 1), (0, .ref (g_t 0)), (1, .ref (g_p1 0))]) hx hb dX6_wordOf_22 hl (k := 0) rfl (by decide) (by decide) rfl (fun ls hl => ?_)
  refine lv_goto (tgt := 2) hx hb dX6_wordOf_25 (by decide) ?_
  refine lv_iload_n hx hb dX6_wordOf_2 rfl (lv_at hl 0 rfl) ?_
  refine lv_bipush (v := 10) hx hb dX6_wordOf_3 (by decide) ?_
  refine lv_icmp_ge (tgt := 28) hx hb dX6_wordOf_5 (by decide) (fun c_1 => absurd c_1 (by decide)) (fun c_1 => ?_)
  refine lv_aload_n hx hb dX6_wordOf_8 rfl (lv_at hl 1 rfl) ?_
  refine lv_aload_n hx hb dX6_wordOf_9 rfl (lv_at hl 2 rfl) ?_
  refine lv_iload_n hx hb dX6_wordOf_10 rfl (lv_at hl 0 rfl) ?_
  refine xc_r (wn := (w_X6_wordOf K g_t g_p1 t_next t_kind t_start t_value t_faultKind t_faultPlace p1_size p1_faultKind p1_faultPlace p1_bytes)) hP hD hS C0.2.2.1 [] [0, 1, 2] [0, 1, 2] rfl rfl (by decide) (by decide) rfl (by decide) (va_runS (As := [.int 1]) (rest := [.ref (g_p1 0), .ref (g_t 0)]) C0.1 (c_X6_lettersOf_1 l D K H.size) (va_cwS 1 hts gX6_wordOf_X6_lettersOf rfl rfl rfl (by decide +kernel) ⟨Nat.le_of_ble_eq_true rfl, Nat.le_of_ble_eq_true rfl⟩) (xp_S C0.2 hP hD hS [] rfl (by decide)) rfl rfl hl.1 rfl (lv_room (Nat.le_of_ble_eq_true rfl)) dX6_wordOf_11 ⟨Nat.le_of_ble_eq_true rfl, Nat.le_of_ble_eq_true rfl⟩) (fun H locs hP hD hS => ?_)
  obtain ⟨r_1, hc_1, hF⟩ := bn_some hF
  refine xc_i (wn := (w_X6_wordOf K g_t g_p1 t_next t_kind t_start t_value t_faultKind t_faultPlace p1_size p1_faultKind p1_faultPlace p1_bytes)) hP hD hS C0.2.2.1 [0, 1, 2] [] [0, 1, 2] rfl rfl (by decide) (by decide) rfl (by decide) (va_runV (As := [.ref (g_p1 0), .ref (K (100 + 1))]) (rest := []) C0.1 (c_X6_isSpelled l D K g_t g_p1 t_next t_kind t_start t_value t_faultKind t_faultPlace p1_size p1_faultKind p1_faultPlace p1_bytes 1 (by decide) r_1 hc_1 H.size) (cwV 2 hts gX6_wordOf_X6_isSpelled rfl rfl rfl (by decide +kernel) ⟨Nat.le_of_ble_eq_true rfl, Nat.le_of_ble_eq_true rfl⟩) (xp_V C0.2 hP hD hS [0, 1, 2] rfl (by decide) 6 0 rfl rfl rfl) rfl rfl hl.1 rfl (lv_room (Nat.le_of_ble_eq_true rfl)) dX6_wordOf_14 ⟨Nat.le_of_ble_eq_true rfl, Nat.le_of_ble_eq_true rfl⟩) (fun H locs hP hD hS => ?_)
  by_cases c_21 : r_1 = (0 : Int32)
  rotate_left
  · have hF := it_neg c_21 hF
    refine lv_if_eq (tgt := 22) hx hb dX6_wordOf_17 (by decide) (fun c_1 => absurd c_1 c_21) (fun c_1 => ?_)
    refine lv_iload_n hx hb dX6_wordOf_20 rfl (lv_at hl 0 rfl) ?_
    obtain rfl := Option.some.inj hF
    exact HR 21 H locs ls dX6_wordOf_21 hP hD hS
  have hF := it_pos c_21 hF
  refine lv_if_eq (tgt := 22) hx hb dX6_wordOf_17 (by decide) (fun c_1 => ?_) (fun c_1 => absurd c_21 c_1)
  refine lv_iinc (v := 2) (lv' := [(2, .int 2), (0, .ref (g_t 0)), (1, .ref (g_p1 0))]) hx hb dX6_wordOf_22 hl (k := 0) rfl (by decide) (by decide) rfl (fun ls hl => ?_)
  refine lv_goto (tgt := 2) hx hb dX6_wordOf_25 (by decide) ?_
  refine lv_iload_n hx hb dX6_wordOf_2 rfl (lv_at hl 0 rfl) ?_
  refine lv_bipush (v := 10) hx hb dX6_wordOf_3 (by decide) ?_
  refine lv_icmp_ge (tgt := 28) hx hb dX6_wordOf_5 (by decide) (fun c_1 => absurd c_1 (by decide)) (fun c_1 => ?_)
  refine lv_aload_n hx hb dX6_wordOf_8 rfl (lv_at hl 1 rfl) ?_
  refine lv_aload_n hx hb dX6_wordOf_9 rfl (lv_at hl 2 rfl) ?_
  refine lv_iload_n hx hb dX6_wordOf_10 rfl (lv_at hl 0 rfl) ?_
  refine xc_r (wn := (w_X6_wordOf K g_t g_p1 t_next t_kind t_start t_value t_faultKind t_faultPlace p1_size p1_faultKind p1_faultPlace p1_bytes)) hP hD hS C0.2.2.1 [] [0, 1, 2] [0, 1, 2] rfl rfl (by decide) (by decide) rfl (by decide) (va_runS (As := [.int 2]) (rest := [.ref (g_p1 0), .ref (g_t 0)]) C0.1 (c_X6_lettersOf_2 l D K H.size) (va_cwS 1 hts gX6_wordOf_X6_lettersOf rfl rfl rfl (by decide +kernel) ⟨Nat.le_of_ble_eq_true rfl, Nat.le_of_ble_eq_true rfl⟩) (xp_S C0.2 hP hD hS [] rfl (by decide)) rfl rfl hl.1 rfl (lv_room (Nat.le_of_ble_eq_true rfl)) dX6_wordOf_11 ⟨Nat.le_of_ble_eq_true rfl, Nat.le_of_ble_eq_true rfl⟩) (fun H locs hP hD hS => ?_)
  obtain ⟨r_2, hc_2, hF⟩ := bn_some hF
  refine xc_i (wn := (w_X6_wordOf K g_t g_p1 t_next t_kind t_start t_value t_faultKind t_faultPlace p1_size p1_faultKind p1_faultPlace p1_bytes)) hP hD hS C0.2.2.1 [0, 1, 2] [] [0, 1, 2] rfl rfl (by decide) (by decide) rfl (by decide) (va_runV (As := [.ref (g_p1 0), .ref (K (100 + 2))]) (rest := []) C0.1 (c_X6_isSpelled l D K g_t g_p1 t_next t_kind t_start t_value t_faultKind t_faultPlace p1_size p1_faultKind p1_faultPlace p1_bytes 2 (by decide) r_2 hc_2 H.size) (cwV 2 hts gX6_wordOf_X6_isSpelled rfl rfl rfl (by decide +kernel) ⟨Nat.le_of_ble_eq_true rfl, Nat.le_of_ble_eq_true rfl⟩) (xp_V C0.2 hP hD hS [0, 1, 2] rfl (by decide) 6 0 rfl rfl rfl) rfl rfl hl.1 rfl (lv_room (Nat.le_of_ble_eq_true rfl)) dX6_wordOf_14 ⟨Nat.le_of_ble_eq_true rfl, Nat.le_of_ble_eq_true rfl⟩) (fun H locs hP hD hS => ?_)
  by_cases c_22 : r_2 = (0 : Int32)
  rotate_left
  · have hF := it_neg c_22 hF
    refine lv_if_eq (tgt := 22) hx hb dX6_wordOf_17 (by decide) (fun c_1 => absurd c_1 c_22) (fun c_1 => ?_)
    refine lv_iload_n hx hb dX6_wordOf_20 rfl (lv_at hl 0 rfl) ?_
    obtain rfl := Option.some.inj hF
    exact HR 21 H locs ls dX6_wordOf_21 hP hD hS
  have hF := it_pos c_22 hF
  refine lv_if_eq (tgt := 22) hx hb dX6_wordOf_17 (by decide) (fun c_1 => ?_) (fun c_1 => absurd c_22 c_1)
  refine lv_iinc (v := 3) (lv' := [(2, .int 3), (0, .ref (g_t 0)), (1, .ref (g_p1 0))]) hx hb dX6_wordOf_22 hl (k := 0) rfl (by decide) (by decide) rfl (fun ls hl => ?_)
  refine lv_goto (tgt := 2) hx hb dX6_wordOf_25 (by decide) ?_
  refine lv_iload_n hx hb dX6_wordOf_2 rfl (lv_at hl 0 rfl) ?_
  refine lv_bipush (v := 10) hx hb dX6_wordOf_3 (by decide) ?_
  refine lv_icmp_ge (tgt := 28) hx hb dX6_wordOf_5 (by decide) (fun c_1 => absurd c_1 (by decide)) (fun c_1 => ?_)
  refine lv_aload_n hx hb dX6_wordOf_8 rfl (lv_at hl 1 rfl) ?_
  refine lv_aload_n hx hb dX6_wordOf_9 rfl (lv_at hl 2 rfl) ?_
  refine lv_iload_n hx hb dX6_wordOf_10 rfl (lv_at hl 0 rfl) ?_
  refine xc_r (wn := (w_X6_wordOf K g_t g_p1 t_next t_kind t_start t_value t_faultKind t_faultPlace p1_size p1_faultKind p1_faultPlace p1_bytes)) hP hD hS C0.2.2.1 [] [0, 1, 2] [0, 1, 2] rfl rfl (by decide) (by decide) rfl (by decide) (va_runS (As := [.int 3]) (rest := [.ref (g_p1 0), .ref (g_t 0)]) C0.1 (c_X6_lettersOf_3 l D K H.size) (va_cwS 1 hts gX6_wordOf_X6_lettersOf rfl rfl rfl (by decide +kernel) ⟨Nat.le_of_ble_eq_true rfl, Nat.le_of_ble_eq_true rfl⟩) (xp_S C0.2 hP hD hS [] rfl (by decide)) rfl rfl hl.1 rfl (lv_room (Nat.le_of_ble_eq_true rfl)) dX6_wordOf_11 ⟨Nat.le_of_ble_eq_true rfl, Nat.le_of_ble_eq_true rfl⟩) (fun H locs hP hD hS => ?_)
  obtain ⟨r_3, hc_3, hF⟩ := bn_some hF
  refine xc_i (wn := (w_X6_wordOf K g_t g_p1 t_next t_kind t_start t_value t_faultKind t_faultPlace p1_size p1_faultKind p1_faultPlace p1_bytes)) hP hD hS C0.2.2.1 [0, 1, 2] [] [0, 1, 2] rfl rfl (by decide) (by decide) rfl (by decide) (va_runV (As := [.ref (g_p1 0), .ref (K (100 + 3))]) (rest := []) C0.1 (c_X6_isSpelled l D K g_t g_p1 t_next t_kind t_start t_value t_faultKind t_faultPlace p1_size p1_faultKind p1_faultPlace p1_bytes 3 (by decide) r_3 hc_3 H.size) (cwV 2 hts gX6_wordOf_X6_isSpelled rfl rfl rfl (by decide +kernel) ⟨Nat.le_of_ble_eq_true rfl, Nat.le_of_ble_eq_true rfl⟩) (xp_V C0.2 hP hD hS [0, 1, 2] rfl (by decide) 6 0 rfl rfl rfl) rfl rfl hl.1 rfl (lv_room (Nat.le_of_ble_eq_true rfl)) dX6_wordOf_14 ⟨Nat.le_of_ble_eq_true rfl, Nat.le_of_ble_eq_true rfl⟩) (fun H locs hP hD hS => ?_)
  by_cases c_23 : r_3 = (0 : Int32)
  rotate_left
  · have hF := it_neg c_23 hF
    refine lv_if_eq (tgt := 22) hx hb dX6_wordOf_17 (by decide) (fun c_1 => absurd c_1 c_23) (fun c_1 => ?_)
    refine lv_iload_n hx hb dX6_wordOf_20 rfl (lv_at hl 0 rfl) ?_
    obtain rfl := Option.some.inj hF
    exact HR 21 H locs ls dX6_wordOf_21 hP hD hS
  have hF := it_pos c_23 hF
  refine lv_if_eq (tgt := 22) hx hb dX6_wordOf_17 (by decide) (fun c_1 => ?_) (fun c_1 => absurd c_23 c_1)
  refine lv_iinc (v := 4) (lv' := [(2, .int 4), (0, .ref (g_t 0)), (1, .ref (g_p1 0))]) hx hb dX6_wordOf_22 hl (k := 0) rfl (by decide) (by decide) rfl (fun ls hl => ?_)
  refine lv_goto (tgt := 2) hx hb dX6_wordOf_25 (by decide) ?_
  refine lv_iload_n hx hb dX6_wordOf_2 rfl (lv_at hl 0 rfl) ?_
  refine lv_bipush (v := 10) hx hb dX6_wordOf_3 (by decide) ?_
  refine lv_icmp_ge (tgt := 28) hx hb dX6_wordOf_5 (by decide) (fun c_1 => absurd c_1 (by decide)) (fun c_1 => ?_)
  refine lv_aload_n hx hb dX6_wordOf_8 rfl (lv_at hl 1 rfl) ?_
  refine lv_aload_n hx hb dX6_wordOf_9 rfl (lv_at hl 2 rfl) ?_
  refine lv_iload_n hx hb dX6_wordOf_10 rfl (lv_at hl 0 rfl) ?_
  refine xc_r (wn := (w_X6_wordOf K g_t g_p1 t_next t_kind t_start t_value t_faultKind t_faultPlace p1_size p1_faultKind p1_faultPlace p1_bytes)) hP hD hS C0.2.2.1 [] [0, 1, 2] [0, 1, 2] rfl rfl (by decide) (by decide) rfl (by decide) (va_runS (As := [.int 4]) (rest := [.ref (g_p1 0), .ref (g_t 0)]) C0.1 (c_X6_lettersOf_4 l D K H.size) (va_cwS 1 hts gX6_wordOf_X6_lettersOf rfl rfl rfl (by decide +kernel) ⟨Nat.le_of_ble_eq_true rfl, Nat.le_of_ble_eq_true rfl⟩) (xp_S C0.2 hP hD hS [] rfl (by decide)) rfl rfl hl.1 rfl (lv_room (Nat.le_of_ble_eq_true rfl)) dX6_wordOf_11 ⟨Nat.le_of_ble_eq_true rfl, Nat.le_of_ble_eq_true rfl⟩) (fun H locs hP hD hS => ?_)
  obtain ⟨r_4, hc_4, hF⟩ := bn_some hF
  refine xc_i (wn := (w_X6_wordOf K g_t g_p1 t_next t_kind t_start t_value t_faultKind t_faultPlace p1_size p1_faultKind p1_faultPlace p1_bytes)) hP hD hS C0.2.2.1 [0, 1, 2] [] [0, 1, 2] rfl rfl (by decide) (by decide) rfl (by decide) (va_runV (As := [.ref (g_p1 0), .ref (K (100 + 4))]) (rest := []) C0.1 (c_X6_isSpelled l D K g_t g_p1 t_next t_kind t_start t_value t_faultKind t_faultPlace p1_size p1_faultKind p1_faultPlace p1_bytes 4 (by decide) r_4 hc_4 H.size) (cwV 2 hts gX6_wordOf_X6_isSpelled rfl rfl rfl (by decide +kernel) ⟨Nat.le_of_ble_eq_true rfl, Nat.le_of_ble_eq_true rfl⟩) (xp_V C0.2 hP hD hS [0, 1, 2] rfl (by decide) 6 0 rfl rfl rfl) rfl rfl hl.1 rfl (lv_room (Nat.le_of_ble_eq_true rfl)) dX6_wordOf_14 ⟨Nat.le_of_ble_eq_true rfl, Nat.le_of_ble_eq_true rfl⟩) (fun H locs hP hD hS => ?_)
  by_cases c_24 : r_4 = (0 : Int32)
  rotate_left
  · have hF := it_neg c_24 hF
    refine lv_if_eq (tgt := 22) hx hb dX6_wordOf_17 (by decide) (fun c_1 => absurd c_1 c_24) (fun c_1 => ?_)
    refine lv_iload_n hx hb dX6_wordOf_20 rfl (lv_at hl 0 rfl) ?_
    obtain rfl := Option.some.inj hF
    exact HR 21 H locs ls dX6_wordOf_21 hP hD hS
  have hF := it_pos c_24 hF
  refine lv_if_eq (tgt := 22) hx hb dX6_wordOf_17 (by decide) (fun c_1 => ?_) (fun c_1 => absurd c_24 c_1)
  refine lv_iinc (v := 5) (lv' := [(2, .int 5), (0, .ref (g_t 0)), (1, .ref (g_p1 0))]) hx hb dX6_wordOf_22 hl (k := 0) rfl (by decide) (by decide) rfl (fun ls hl => ?_)
  refine lv_goto (tgt := 2) hx hb dX6_wordOf_25 (by decide) ?_
  refine lv_iload_n hx hb dX6_wordOf_2 rfl (lv_at hl 0 rfl) ?_
  refine lv_bipush (v := 10) hx hb dX6_wordOf_3 (by decide) ?_
  refine lv_icmp_ge (tgt := 28) hx hb dX6_wordOf_5 (by decide) (fun c_1 => absurd c_1 (by decide)) (fun c_1 => ?_)
  refine lv_aload_n hx hb dX6_wordOf_8 rfl (lv_at hl 1 rfl) ?_
  refine lv_aload_n hx hb dX6_wordOf_9 rfl (lv_at hl 2 rfl) ?_
  refine lv_iload_n hx hb dX6_wordOf_10 rfl (lv_at hl 0 rfl) ?_
  refine xc_r (wn := (w_X6_wordOf K g_t g_p1 t_next t_kind t_start t_value t_faultKind t_faultPlace p1_size p1_faultKind p1_faultPlace p1_bytes)) hP hD hS C0.2.2.1 [] [0, 1, 2] [0, 1, 2] rfl rfl (by decide) (by decide) rfl (by decide) (va_runS (As := [.int 5]) (rest := [.ref (g_p1 0), .ref (g_t 0)]) C0.1 (c_X6_lettersOf_5 l D K H.size) (va_cwS 1 hts gX6_wordOf_X6_lettersOf rfl rfl rfl (by decide +kernel) ⟨Nat.le_of_ble_eq_true rfl, Nat.le_of_ble_eq_true rfl⟩) (xp_S C0.2 hP hD hS [] rfl (by decide)) rfl rfl hl.1 rfl (lv_room (Nat.le_of_ble_eq_true rfl)) dX6_wordOf_11 ⟨Nat.le_of_ble_eq_true rfl, Nat.le_of_ble_eq_true rfl⟩) (fun H locs hP hD hS => ?_)
  obtain ⟨r_5, hc_5, hF⟩ := bn_some hF
  refine xc_i (wn := (w_X6_wordOf K g_t g_p1 t_next t_kind t_start t_value t_faultKind t_faultPlace p1_size p1_faultKind p1_faultPlace p1_bytes)) hP hD hS C0.2.2.1 [0, 1, 2] [] [0, 1, 2] rfl rfl (by decide) (by decide) rfl (by decide) (va_runV (As := [.ref (g_p1 0), .ref (K (100 + 5))]) (rest := []) C0.1 (c_X6_isSpelled l D K g_t g_p1 t_next t_kind t_start t_value t_faultKind t_faultPlace p1_size p1_faultKind p1_faultPlace p1_bytes 5 (by decide) r_5 hc_5 H.size) (cwV 2 hts gX6_wordOf_X6_isSpelled rfl rfl rfl (by decide +kernel) ⟨Nat.le_of_ble_eq_true rfl, Nat.le_of_ble_eq_true rfl⟩) (xp_V C0.2 hP hD hS [0, 1, 2] rfl (by decide) 6 0 rfl rfl rfl) rfl rfl hl.1 rfl (lv_room (Nat.le_of_ble_eq_true rfl)) dX6_wordOf_14 ⟨Nat.le_of_ble_eq_true rfl, Nat.le_of_ble_eq_true rfl⟩) (fun H locs hP hD hS => ?_)
  by_cases c_25 : r_5 = (0 : Int32)
  rotate_left
  · have hF := it_neg c_25 hF
    refine lv_if_eq (tgt := 22) hx hb dX6_wordOf_17 (by decide) (fun c_1 => absurd c_1 c_25) (fun c_1 => ?_)
    refine lv_iload_n hx hb dX6_wordOf_20 rfl (lv_at hl 0 rfl) ?_
    obtain rfl := Option.some.inj hF
    exact HR 21 H locs ls dX6_wordOf_21 hP hD hS
  have hF := it_pos c_25 hF
  refine lv_if_eq (tgt := 22) hx hb dX6_wordOf_17 (by decide) (fun c_1 => ?_) (fun c_1 => absurd c_25 c_1)
  refine lv_iinc (v := 6) (lv' := [(2, .int 6), (0, .ref (g_t 0)), (1, .ref (g_p1 0))]) hx hb dX6_wordOf_22 hl (k := 0) rfl (by decide) (by decide) rfl (fun ls hl => ?_)
  refine lv_goto (tgt := 2) hx hb dX6_wordOf_25 (by decide) ?_
  refine lv_iload_n hx hb dX6_wordOf_2 rfl (lv_at hl 0 rfl) ?_
  refine lv_bipush (v := 10) hx hb dX6_wordOf_3 (by decide) ?_
  refine lv_icmp_ge (tgt := 28) hx hb dX6_wordOf_5 (by decide) (fun c_1 => absurd c_1 (by decide)) (fun c_1 => ?_)
  refine lv_aload_n hx hb dX6_wordOf_8 rfl (lv_at hl 1 rfl) ?_
  refine lv_aload_n hx hb dX6_wordOf_9 rfl (lv_at hl 2 rfl) ?_
  refine lv_iload_n hx hb dX6_wordOf_10 rfl (lv_at hl 0 rfl) ?_
  refine xc_r (wn := (w_X6_wordOf K g_t g_p1 t_next t_kind t_start t_value t_faultKind t_faultPlace p1_size p1_faultKind p1_faultPlace p1_bytes)) hP hD hS C0.2.2.1 [] [0, 1, 2] [0, 1, 2] rfl rfl (by decide) (by decide) rfl (by decide) (va_runS (As := [.int 6]) (rest := [.ref (g_p1 0), .ref (g_t 0)]) C0.1 (c_X6_lettersOf_6 l D K H.size) (va_cwS 1 hts gX6_wordOf_X6_lettersOf rfl rfl rfl (by decide +kernel) ⟨Nat.le_of_ble_eq_true rfl, Nat.le_of_ble_eq_true rfl⟩) (xp_S C0.2 hP hD hS [] rfl (by decide)) rfl rfl hl.1 rfl (lv_room (Nat.le_of_ble_eq_true rfl)) dX6_wordOf_11 ⟨Nat.le_of_ble_eq_true rfl, Nat.le_of_ble_eq_true rfl⟩) (fun H locs hP hD hS => ?_)
  obtain ⟨r_6, hc_6, hF⟩ := bn_some hF
  refine xc_i (wn := (w_X6_wordOf K g_t g_p1 t_next t_kind t_start t_value t_faultKind t_faultPlace p1_size p1_faultKind p1_faultPlace p1_bytes)) hP hD hS C0.2.2.1 [0, 1, 2] [] [0, 1, 2] rfl rfl (by decide) (by decide) rfl (by decide) (va_runV (As := [.ref (g_p1 0), .ref (K (100 + 6))]) (rest := []) C0.1 (c_X6_isSpelled l D K g_t g_p1 t_next t_kind t_start t_value t_faultKind t_faultPlace p1_size p1_faultKind p1_faultPlace p1_bytes 6 (by decide) r_6 hc_6 H.size) (cwV 2 hts gX6_wordOf_X6_isSpelled rfl rfl rfl (by decide +kernel) ⟨Nat.le_of_ble_eq_true rfl, Nat.le_of_ble_eq_true rfl⟩) (xp_V C0.2 hP hD hS [0, 1, 2] rfl (by decide) 6 0 rfl rfl rfl) rfl rfl hl.1 rfl (lv_room (Nat.le_of_ble_eq_true rfl)) dX6_wordOf_14 ⟨Nat.le_of_ble_eq_true rfl, Nat.le_of_ble_eq_true rfl⟩) (fun H locs hP hD hS => ?_)
  by_cases c_26 : r_6 = (0 : Int32)
  rotate_left
  · have hF := it_neg c_26 hF
    refine lv_if_eq (tgt := 22) hx hb dX6_wordOf_17 (by decide) (fun c_1 => absurd c_1 c_26) (fun c_1 => ?_)
    refine lv_iload_n hx hb dX6_wordOf_20 rfl (lv_at hl 0 rfl) ?_
    obtain rfl := Option.some.inj hF
    exact HR 21 H locs ls dX6_wordOf_21 hP hD hS
  have hF := it_pos c_26 hF
  refine lv_if_eq (tgt := 22) hx hb dX6_wordOf_17 (by decide) (fun c_1 => ?_) (fun c_1 => absurd c_26 c_1)
  refine lv_iinc (v := 7) (lv' := [(2, .int 7), (0, .ref (g_t 0)), (1, .ref (g_p1 0))]) hx hb dX6_wordOf_22 hl (k := 0) rfl (by decide) (by decide) rfl (fun ls hl => ?_)
  refine lv_goto (tgt := 2) hx hb dX6_wordOf_25 (by decide) ?_
  refine lv_iload_n hx hb dX6_wordOf_2 rfl (lv_at hl 0 rfl) ?_
  refine lv_bipush (v := 10) hx hb dX6_wordOf_3 (by decide) ?_
  refine lv_icmp_ge (tgt := 28) hx hb dX6_wordOf_5 (by decide) (fun c_1 => absurd c_1 (by decide)) (fun c_1 => ?_)
  refine lv_aload_n hx hb dX6_wordOf_8 rfl (lv_at hl 1 rfl) ?_
  refine lv_aload_n hx hb dX6_wordOf_9 rfl (lv_at hl 2 rfl) ?_
  refine lv_iload_n hx hb dX6_wordOf_10 rfl (lv_at hl 0 rfl) ?_
  refine xc_r (wn := (w_X6_wordOf K g_t g_p1 t_next t_kind t_start t_value t_faultKind t_faultPlace p1_size p1_faultKind p1_faultPlace p1_bytes)) hP hD hS C0.2.2.1 [] [0, 1, 2] [0, 1, 2] rfl rfl (by decide) (by decide) rfl (by decide) (va_runS (As := [.int 7]) (rest := [.ref (g_p1 0), .ref (g_t 0)]) C0.1 (c_X6_lettersOf_7 l D K H.size) (va_cwS 1 hts gX6_wordOf_X6_lettersOf rfl rfl rfl (by decide +kernel) ⟨Nat.le_of_ble_eq_true rfl, Nat.le_of_ble_eq_true rfl⟩) (xp_S C0.2 hP hD hS [] rfl (by decide)) rfl rfl hl.1 rfl (lv_room (Nat.le_of_ble_eq_true rfl)) dX6_wordOf_11 ⟨Nat.le_of_ble_eq_true rfl, Nat.le_of_ble_eq_true rfl⟩) (fun H locs hP hD hS => ?_)
  obtain ⟨r_7, hc_7, hF⟩ := bn_some hF
  refine xc_i (wn := (w_X6_wordOf K g_t g_p1 t_next t_kind t_start t_value t_faultKind t_faultPlace p1_size p1_faultKind p1_faultPlace p1_bytes)) hP hD hS C0.2.2.1 [0, 1, 2] [] [0, 1, 2] rfl rfl (by decide) (by decide) rfl (by decide) (va_runV (As := [.ref (g_p1 0), .ref (K (100 + 7))]) (rest := []) C0.1 (c_X6_isSpelled l D K g_t g_p1 t_next t_kind t_start t_value t_faultKind t_faultPlace p1_size p1_faultKind p1_faultPlace p1_bytes 7 (by decide) r_7 hc_7 H.size) (cwV 2 hts gX6_wordOf_X6_isSpelled rfl rfl rfl (by decide +kernel) ⟨Nat.le_of_ble_eq_true rfl, Nat.le_of_ble_eq_true rfl⟩) (xp_V C0.2 hP hD hS [0, 1, 2] rfl (by decide) 6 0 rfl rfl rfl) rfl rfl hl.1 rfl (lv_room (Nat.le_of_ble_eq_true rfl)) dX6_wordOf_14 ⟨Nat.le_of_ble_eq_true rfl, Nat.le_of_ble_eq_true rfl⟩) (fun H locs hP hD hS => ?_)
  by_cases c_27 : r_7 = (0 : Int32)
  rotate_left
  · have hF := it_neg c_27 hF
    refine lv_if_eq (tgt := 22) hx hb dX6_wordOf_17 (by decide) (fun c_1 => absurd c_1 c_27) (fun c_1 => ?_)
    refine lv_iload_n hx hb dX6_wordOf_20 rfl (lv_at hl 0 rfl) ?_
    obtain rfl := Option.some.inj hF
    exact HR 21 H locs ls dX6_wordOf_21 hP hD hS
  have hF := it_pos c_27 hF
  refine lv_if_eq (tgt := 22) hx hb dX6_wordOf_17 (by decide) (fun c_1 => ?_) (fun c_1 => absurd c_27 c_1)
  refine lv_iinc (v := 8) (lv' := [(2, .int 8), (0, .ref (g_t 0)), (1, .ref (g_p1 0))]) hx hb dX6_wordOf_22 hl (k := 0) rfl (by decide) (by decide) rfl (fun ls hl => ?_)
  refine lv_goto (tgt := 2) hx hb dX6_wordOf_25 (by decide) ?_
  refine lv_iload_n hx hb dX6_wordOf_2 rfl (lv_at hl 0 rfl) ?_
  refine lv_bipush (v := 10) hx hb dX6_wordOf_3 (by decide) ?_
  refine lv_icmp_ge (tgt := 28) hx hb dX6_wordOf_5 (by decide) (fun c_1 => absurd c_1 (by decide)) (fun c_1 => ?_)
  refine lv_aload_n hx hb dX6_wordOf_8 rfl (lv_at hl 1 rfl) ?_
  refine lv_aload_n hx hb dX6_wordOf_9 rfl (lv_at hl 2 rfl) ?_
  refine lv_iload_n hx hb dX6_wordOf_10 rfl (lv_at hl 0 rfl) ?_
  refine xc_r (wn := (w_X6_wordOf K g_t g_p1 t_next t_kind t_start t_value t_faultKind t_faultPlace p1_size p1_faultKind p1_faultPlace p1_bytes)) hP hD hS C0.2.2.1 [] [0, 1, 2] [0, 1, 2] rfl rfl (by decide) (by decide) rfl (by decide) (va_runS (As := [.int 8]) (rest := [.ref (g_p1 0), .ref (g_t 0)]) C0.1 (c_X6_lettersOf_8 l D K H.size) (va_cwS 1 hts gX6_wordOf_X6_lettersOf rfl rfl rfl (by decide +kernel) ⟨Nat.le_of_ble_eq_true rfl, Nat.le_of_ble_eq_true rfl⟩) (xp_S C0.2 hP hD hS [] rfl (by decide)) rfl rfl hl.1 rfl (lv_room (Nat.le_of_ble_eq_true rfl)) dX6_wordOf_11 ⟨Nat.le_of_ble_eq_true rfl, Nat.le_of_ble_eq_true rfl⟩) (fun H locs hP hD hS => ?_)
  obtain ⟨r_8, hc_8, hF⟩ := bn_some hF
  refine xc_i (wn := (w_X6_wordOf K g_t g_p1 t_next t_kind t_start t_value t_faultKind t_faultPlace p1_size p1_faultKind p1_faultPlace p1_bytes)) hP hD hS C0.2.2.1 [0, 1, 2] [] [0, 1, 2] rfl rfl (by decide) (by decide) rfl (by decide) (va_runV (As := [.ref (g_p1 0), .ref (K (100 + 8))]) (rest := []) C0.1 (c_X6_isSpelled l D K g_t g_p1 t_next t_kind t_start t_value t_faultKind t_faultPlace p1_size p1_faultKind p1_faultPlace p1_bytes 8 (by decide) r_8 hc_8 H.size) (cwV 2 hts gX6_wordOf_X6_isSpelled rfl rfl rfl (by decide +kernel) ⟨Nat.le_of_ble_eq_true rfl, Nat.le_of_ble_eq_true rfl⟩) (xp_V C0.2 hP hD hS [0, 1, 2] rfl (by decide) 6 0 rfl rfl rfl) rfl rfl hl.1 rfl (lv_room (Nat.le_of_ble_eq_true rfl)) dX6_wordOf_14 ⟨Nat.le_of_ble_eq_true rfl, Nat.le_of_ble_eq_true rfl⟩) (fun H locs hP hD hS => ?_)
  by_cases c_28 : r_8 = (0 : Int32)
  rotate_left
  · have hF := it_neg c_28 hF
    refine lv_if_eq (tgt := 22) hx hb dX6_wordOf_17 (by decide) (fun c_1 => absurd c_1 c_28) (fun c_1 => ?_)
    refine lv_iload_n hx hb dX6_wordOf_20 rfl (lv_at hl 0 rfl) ?_
    obtain rfl := Option.some.inj hF
    exact HR 21 H locs ls dX6_wordOf_21 hP hD hS
  have hF := it_pos c_28 hF
  refine lv_if_eq (tgt := 22) hx hb dX6_wordOf_17 (by decide) (fun c_1 => ?_) (fun c_1 => absurd c_28 c_1)
  refine lv_iinc (v := 9) (lv' := [(2, .int 9), (0, .ref (g_t 0)), (1, .ref (g_p1 0))]) hx hb dX6_wordOf_22 hl (k := 0) rfl (by decide) (by decide) rfl (fun ls hl => ?_)
  refine lv_goto (tgt := 2) hx hb dX6_wordOf_25 (by decide) ?_
  refine lv_iload_n hx hb dX6_wordOf_2 rfl (lv_at hl 0 rfl) ?_
  refine lv_bipush (v := 10) hx hb dX6_wordOf_3 (by decide) ?_
  refine lv_icmp_ge (tgt := 28) hx hb dX6_wordOf_5 (by decide) (fun c_1 => absurd c_1 (by decide)) (fun c_1 => ?_)
  refine lv_aload_n hx hb dX6_wordOf_8 rfl (lv_at hl 1 rfl) ?_
  refine lv_aload_n hx hb dX6_wordOf_9 rfl (lv_at hl 2 rfl) ?_
  refine lv_iload_n hx hb dX6_wordOf_10 rfl (lv_at hl 0 rfl) ?_
  refine xc_r (wn := (w_X6_wordOf K g_t g_p1 t_next t_kind t_start t_value t_faultKind t_faultPlace p1_size p1_faultKind p1_faultPlace p1_bytes)) hP hD hS C0.2.2.1 [] [0, 1, 2] [0, 1, 2] rfl rfl (by decide) (by decide) rfl (by decide) (va_runS (As := [.int 9]) (rest := [.ref (g_p1 0), .ref (g_t 0)]) C0.1 (c_X6_lettersOf_9 l D K H.size) (va_cwS 1 hts gX6_wordOf_X6_lettersOf rfl rfl rfl (by decide +kernel) ⟨Nat.le_of_ble_eq_true rfl, Nat.le_of_ble_eq_true rfl⟩) (xp_S C0.2 hP hD hS [] rfl (by decide)) rfl rfl hl.1 rfl (lv_room (Nat.le_of_ble_eq_true rfl)) dX6_wordOf_11 ⟨Nat.le_of_ble_eq_true rfl, Nat.le_of_ble_eq_true rfl⟩) (fun H locs hP hD hS => ?_)
  obtain ⟨r_9, hc_9, hF⟩ := bn_some hF
  refine xc_i (wn := (w_X6_wordOf K g_t g_p1 t_next t_kind t_start t_value t_faultKind t_faultPlace p1_size p1_faultKind p1_faultPlace p1_bytes)) hP hD hS C0.2.2.1 [0, 1, 2] [] [0, 1, 2] rfl rfl (by decide) (by decide) rfl (by decide) (va_runV (As := [.ref (g_p1 0), .ref (K (100 + 9))]) (rest := []) C0.1 (c_X6_isSpelled l D K g_t g_p1 t_next t_kind t_start t_value t_faultKind t_faultPlace p1_size p1_faultKind p1_faultPlace p1_bytes 9 (by decide) r_9 hc_9 H.size) (cwV 2 hts gX6_wordOf_X6_isSpelled rfl rfl rfl (by decide +kernel) ⟨Nat.le_of_ble_eq_true rfl, Nat.le_of_ble_eq_true rfl⟩) (xp_V C0.2 hP hD hS [0, 1, 2] rfl (by decide) 6 0 rfl rfl rfl) rfl rfl hl.1 rfl (lv_room (Nat.le_of_ble_eq_true rfl)) dX6_wordOf_14 ⟨Nat.le_of_ble_eq_true rfl, Nat.le_of_ble_eq_true rfl⟩) (fun H locs hP hD hS => ?_)
  by_cases c_29 : r_9 = (0 : Int32)
  rotate_left
  · have hF := it_neg c_29 hF
    refine lv_if_eq (tgt := 22) hx hb dX6_wordOf_17 (by decide) (fun c_1 => absurd c_1 c_29) (fun c_1 => ?_)
    refine lv_iload_n hx hb dX6_wordOf_20 rfl (lv_at hl 0 rfl) ?_
    obtain rfl := Option.some.inj hF
    exact HR 21 H locs ls dX6_wordOf_21 hP hD hS
  have hF := it_pos c_29 hF
  refine lv_if_eq (tgt := 22) hx hb dX6_wordOf_17 (by decide) (fun c_1 => ?_) (fun c_1 => absurd c_29 c_1)
  refine lv_iinc (v := 10) (lv' := [(2, .int 10), (0, .ref (g_t 0)), (1, .ref (g_p1 0))]) hx hb dX6_wordOf_22 hl (k := 0) rfl (by decide) (by decide) rfl (fun ls hl => ?_)
  refine lv_goto (tgt := 2) hx hb dX6_wordOf_25 (by decide) ?_
  refine lv_iload_n hx hb dX6_wordOf_2 rfl (lv_at hl 0 rfl) ?_
  refine lv_bipush (v := 10) hx hb dX6_wordOf_3 (by decide) ?_
  refine lv_icmp_ge (tgt := 28) hx hb dX6_wordOf_5 (by decide) (fun c_1 => ?_) (fun c_1 => absurd (by decide) c_1)
  refine lv_iconst (v := (-1)) hx hb dX6_wordOf_28 (by decide) ?_
  obtain rfl := Option.some.inj hF
  exact HR 29 H locs ls dX6_wordOf_29 hP hD hS

/-! ===== END ===== -/
