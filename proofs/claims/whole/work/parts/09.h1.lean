/-! ===== BEGIN the cases of the law ===== -/
theorem bz_b (v : Int32) : bz v = bI (decide (¬ v = 0)) := by
  unfold bz bI
  by_cases h : v = 0
  · rw [if_pos h, decide_eq_false (fun q => q h)]
    rfl
  · rw [if_neg h, decide_eq_true h]
    rfl
set_option maxHeartbeats 4000000 in
set_option maxRecDepth 100000 in
theorem lc_0 {p : Program} {l : Launch} {e : Env} {s : State} {m : MethodId} {below : List Frame} {meth : Method} {c : Code} {Q : State → Prop} {b L : Nat} {xs : Nat → Int32} {D : va_G} {K : Nat → ClassId} (C : LC p s m c b L xs D K) {i cells slots : Nat} (hi : i + 6 ≤ L) (hcs : cells + 1 ≤ 601024 ∧ slots + 6 ≤ 7293034) {hx hm o : Nat} {f : Nat → Int64} {Wc Wr : va_W} (hsim : SIM K hx hm Wc Wr) {H : Heap} {locs : List Loc} {ls : Array Slot} (hP : va_P D vwCl (oU K o f :: (Wc ++ Wr)) H) (hD : va_D (fun q : Nat => s.heap.size ≤ q) (oU K o f :: (Wc ++ Wr))) (hS : va_S (fun q : Nat => s.heap.size ≤ q) s.heap H locs) (hl : lv_has ls 7 [(0, .ref b), (1, .ref hx), (2, .ref hm), (3, .ref o), (4, .int (nI i))])
    (HC : ∀ (Wc2 Wr2 : va_W) (f2 : Nat → Int64) (H : Heap) (locs : List Loc) (ls : Array Slot), SIM K hx hm Wc2 Wr2 → va_P D vwCl (oU K o f2 :: (Wc2 ++ Wr2)) H → va_D (fun q : Nat => s.heap.size ≤ q) (oU K o f2 :: (Wc2 ++ Wr2)) → va_S (fun q : Nat => s.heap.size ≤ q) s.heap H locs → lv_has ls 7 [(0, .ref b), (1, .ref hx), (2, .ref hm), (3, .ref o), (4, .int (nI i))] → W p l e room_1 s m #[Value.ref b] below meth c H locs (cells + 1) (slots + 6) Q (F0 m 1512 ls [])) :
    W p l e room_1 s m #[Value.ref b] below meth c H locs cells slots Q (F0 m 192 ls []) := by
  obtain ⟨C0, hTX, hX, hbl, hL⟩ := id C
  obtain ⟨⟨hx1, hb, hml, hown, hts⟩, hK, hA, -⟩ := id C0
  obtain ⟨⟨fs1, he1⟩, ⟨fs2, he2⟩⟩ := SIM_hd hsim
  have hbA : ¬ (fun q : Nat => s.heap.size ≤ q) b := Nat.not_le.mpr hbl
  have hc0 : cells + 0 ≤ room_1.cells ∧ slots + 0 ≤ room_1.slots := ⟨show cells + 0 ≤ 601024 by omega, show slots + 0 ≤ 7293034 by omega⟩
  obtain ⟨v, Wc2, Wr2, h1, h2, hsim2⟩ := sim_type l D hsim ((((xs (nI i + (1 : Int32)).toNatClampNeg)).toInt64 <<< (((32 : Int32)).toInt64 &&& 63)) ||| (((xs (nI i + (2 : Int32)).toNatClampNeg)).toInt64 &&& (4294967295 : Int64)))
  refine lv_aload_n hx1 hb dL_law_192 rfl (lv_at hl 1 rfl) ?_
  refine lv_aload_n hx1 hb dL_law_193 rfl (lv_at hl 0 rfl) ?_
  refine lv_iload hx1 hb dL_law_194 (lv_at hl 4 rfl) ?_
  refine lv_iconst (v := 1) hx1 hb dL_law_196 (by decide) ?_
  refine lv_iadd hx1 hb dL_law_197 ?_
  refine va_sld hx1 hb hX hbl hbA hS (li_ (j := 1) (by omega) hL) dL_law_198 ?_
  refine lv_i2l hx1 hb dL_law_199 rfl ?_
  refine lv_bipush (v := 32) hx1 hb dL_law_200 (by decide) ?_
  refine lv_lshl hx1 hb dL_law_202 rfl ?_
  refine lv_aload_n hx1 hb dL_law_203 rfl (lv_at hl 0 rfl) ?_
  refine lv_iload hx1 hb dL_law_204 (lv_at hl 4 rfl) ?_
  refine lv_iconst (v := 2) hx1 hb dL_law_206 (by decide) ?_
  refine lv_iadd hx1 hb dL_law_207 ?_
  refine va_sld hx1 hb hX hbl hbA hS (li_ (j := 2) (by omega) hL) dL_law_208 ?_
  refine lv_i2l hx1 hb dL_law_209 rfl ?_
  refine lv_ldc2 (v := 4294967295) hx1 hb hown (hts _ ld_L_22) dL_law_210 ?_
  refine lv_land hx1 hb dL_law_213 ?_
  refine lv_lor hx1 hb dL_law_214 ?_
  refine xq_i (wc := Wc) (wr := oU K o f :: Wr) (w1 := Wc2) (wn := oU K o f :: (Wc2 ++ Wr)) (pX _ _ _) (qX _ _ _) hP hD hS hA (va_runV (As := [.long ((((xs (nI i + (1 : Int32)).toNatClampNeg)).toInt64 <<< (((32 : Int32)).toInt64 &&& 63)) ||| (((xs (nI i + (2 : Int32)).toNatClampNeg)).toInt64 &&& (4294967295 : Int64)))]) (rest := []) C0.1 (h1 H.size) (cwV 1 hts gL_law_X10_type rfl rfl rfl (by decide +kernel) ⟨Nat.le_of_ble_eq_true rfl, Nat.le_of_ble_eq_true rfl⟩) (yq_V C0.2 hP hD hS (pX _ _ _) 9 0 rfl he1 rfl) rfl rfl hl.1 rfl (lv_room (Nat.le_of_ble_eq_true rfl)) dL_law_215 hc0) (fun H locs hP hD hS => ?_)
  refine lv_aload_n hx1 hb dL_law_218 rfl (lv_at hl 2 rfl) ?_
  refine lv_aload_n hx1 hb dL_law_219 rfl (lv_at hl 0 rfl) ?_
  refine lv_iload hx1 hb dL_law_220 (lv_at hl 4 rfl) ?_
  refine lv_iconst (v := 1) hx1 hb dL_law_222 (by decide) ?_
  refine lv_iadd hx1 hb dL_law_223 ?_
  refine va_sld hx1 hb hX hbl hbA hS (li_ (j := 1) (by omega) hL) dL_law_224 ?_
  refine lv_i2l hx1 hb dL_law_225 rfl ?_
  refine lv_bipush (v := 32) hx1 hb dL_law_226 (by decide) ?_
  refine lv_lshl hx1 hb dL_law_228 rfl ?_
  refine lv_aload_n hx1 hb dL_law_229 rfl (lv_at hl 0 rfl) ?_
  refine lv_iload hx1 hb dL_law_230 (lv_at hl 4 rfl) ?_
  refine lv_iconst (v := 2) hx1 hb dL_law_232 (by decide) ?_
  refine lv_iadd hx1 hb dL_law_233 ?_
  refine va_sld hx1 hb hX hbl hbA hS (li_ (j := 2) (by omega) hL) dL_law_234 ?_
  refine lv_i2l hx1 hb dL_law_235 rfl ?_
  refine lv_ldc2 (v := 4294967295) hx1 hb hown (hts _ ld_L_22) dL_law_236 ?_
  refine lv_land hx1 hb dL_law_239 ?_
  refine lv_lor hx1 hb dL_law_240 ?_
  refine xq_i (wc := Wr) (wr := oU K o f :: Wc2) (w1 := Wr2) (wn := oU K o f :: (Wc2 ++ Wr2)) (pM _ _ _) (qM _ _ _) hP hD hS hA (va_runV (As := [.long ((((xs (nI i + (1 : Int32)).toNatClampNeg)).toInt64 <<< (((32 : Int32)).toInt64 &&& 63)) ||| (((xs (nI i + (2 : Int32)).toNatClampNeg)).toInt64 &&& (4294967295 : Int64)))]) (rest := [.int v]) C0.1 (h2 H.size) (cwV 1 hts gL_law_X11_type rfl rfl rfl (by decide +kernel) ⟨Nat.le_of_ble_eq_true rfl, Nat.le_of_ble_eq_true rfl⟩) (yq_V C0.2 hP hD hS (pM _ _ _) 10 0 rfl he2 rfl) rfl rfl hl.1 rfl (lv_room (Nat.le_of_ble_eq_true rfl)) dL_law_241 hc0) (fun H locs hP hD hS => ?_)
  refine lv_icmp_eq (tgt := 1512) hx1 hb dL_law_244 (by decide) (fun c_ => ?_) (fun c_ => absurd rfl c_)
  refine W.widen (k := cells + 1) (n := slots + 6) (by omega) (by omega) ?_
  exact HC Wc2 Wr2 f H locs ls hsim2 hP hD hS hl
set_option maxHeartbeats 4000000 in
set_option maxRecDepth 100000 in
theorem lc_1 {p : Program} {l : Launch} {e : Env} {s : State} {m : MethodId} {below : List Frame} {meth : Method} {c : Code} {Q : State → Prop} {b L : Nat} {xs : Nat → Int32} {D : va_G} {K : Nat → ClassId} (C : LC p s m c b L xs D K) {i cells slots : Nat} (hi : i + 6 ≤ L) (hcs : cells + 1 ≤ 601024 ∧ slots + 6 ≤ 7293034) {hx hm o : Nat} {f : Nat → Int64} {Wc Wr : va_W} (hsim : SIM K hx hm Wc Wr) {H : Heap} {locs : List Loc} {ls : Array Slot} (hP : va_P D vwCl (oU K o f :: (Wc ++ Wr)) H) (hD : va_D (fun q : Nat => s.heap.size ≤ q) (oU K o f :: (Wc ++ Wr))) (hS : va_S (fun q : Nat => s.heap.size ≤ q) s.heap H locs) (hl : lv_has ls 7 [(0, .ref b), (1, .ref hx), (2, .ref hm), (3, .ref o), (4, .int (nI i))])
    (HC : ∀ (Wc2 Wr2 : va_W) (f2 : Nat → Int64) (H : Heap) (locs : List Loc) (ls : Array Slot), SIM K hx hm Wc2 Wr2 → va_P D vwCl (oU K o f2 :: (Wc2 ++ Wr2)) H → va_D (fun q : Nat => s.heap.size ≤ q) (oU K o f2 :: (Wc2 ++ Wr2)) → va_S (fun q : Nat => s.heap.size ≤ q) s.heap H locs → lv_has ls 7 [(0, .ref b), (1, .ref hx), (2, .ref hm), (3, .ref o), (4, .int (nI i))] → W p l e room_1 s m #[Value.ref b] below meth c H locs (cells + 1) (slots + 6) Q (F0 m 1512 ls [])) :
    W p l e room_1 s m #[Value.ref b] below meth c H locs cells slots Q (F0 m 249 ls []) := by
  obtain ⟨C0, hTX, hX, hbl, hL⟩ := id C
  obtain ⟨⟨hx1, hb, hml, hown, hts⟩, hK, hA, -⟩ := id C0
  obtain ⟨⟨fs1, he1⟩, ⟨fs2, he2⟩⟩ := SIM_hd hsim
  have hbA : ¬ (fun q : Nat => s.heap.size ≤ q) b := Nat.not_le.mpr hbl
  have hc0 : cells + 0 ≤ room_1.cells ∧ slots + 0 ≤ room_1.slots := ⟨show cells + 0 ≤ 601024 by omega, show slots + 0 ≤ 7293034 by omega⟩
  obtain ⟨v, Wc2, Wr2, h1, h2, hsim2⟩ := sim_read l D hsim 
  refine lv_aload_n hx1 hb dL_law_249 rfl (lv_at hl 1 rfl) ?_
  refine xq_i (wc := Wc) (wr := oU K o f :: Wr) (w1 := Wc2) (wn := oU K o f :: (Wc2 ++ Wr)) (pX _ _ _) (qX _ _ _) hP hD hS hA (va_runV (As := []) (rest := []) C0.1 (h1 H.size) (cwV 0 hts gL_law_X10_read rfl rfl rfl (by decide +kernel) ⟨Nat.le_of_ble_eq_true rfl, Nat.le_of_ble_eq_true rfl⟩) (yq_V C0.2 hP hD hS (pX _ _ _) 9 0 rfl he1 rfl) rfl rfl hl.1 rfl (lv_room (Nat.le_of_ble_eq_true rfl)) dL_law_250 hc0) (fun H locs hP hD hS => ?_)
  refine lv_aload_n hx1 hb dL_law_253 rfl (lv_at hl 2 rfl) ?_
  refine xq_i (wc := Wr) (wr := oU K o f :: Wc2) (w1 := Wr2) (wn := oU K o f :: (Wc2 ++ Wr2)) (pM _ _ _) (qM _ _ _) hP hD hS hA (va_runV (As := []) (rest := [.int v]) C0.1 (h2 H.size) (cwV 0 hts gL_law_X11_read rfl rfl rfl (by decide +kernel) ⟨Nat.le_of_ble_eq_true rfl, Nat.le_of_ble_eq_true rfl⟩) (yq_V C0.2 hP hD hS (pM _ _ _) 10 0 rfl he2 rfl) rfl rfl hl.1 rfl (lv_room (Nat.le_of_ble_eq_true rfl)) dL_law_254 hc0) (fun H locs hP hD hS => ?_)
  refine lv_icmp_eq (tgt := 1512) hx1 hb dL_law_257 (by decide) (fun c_ => ?_) (fun c_ => absurd rfl c_)
  refine W.widen (k := cells + 1) (n := slots + 6) (by omega) (by omega) ?_
  exact HC Wc2 Wr2 f H locs ls hsim2 hP hD hS hl
set_option maxHeartbeats 4000000 in
set_option maxRecDepth 100000 in
theorem lc_2 {p : Program} {l : Launch} {e : Env} {s : State} {m : MethodId} {below : List Frame} {meth : Method} {c : Code} {Q : State → Prop} {b L : Nat} {xs : Nat → Int32} {D : va_G} {K : Nat → ClassId} (C : LC p s m c b L xs D K) {i cells slots : Nat} (hi : i + 6 ≤ L) (hcs : cells + 1 ≤ 601024 ∧ slots + 6 ≤ 7293034) {hx hm o : Nat} {f : Nat → Int64} {Wc Wr : va_W} (hsim : SIM K hx hm Wc Wr) {H : Heap} {locs : List Loc} {ls : Array Slot} (hP : va_P D vwCl (oU K o f :: (Wc ++ Wr)) H) (hD : va_D (fun q : Nat => s.heap.size ≤ q) (oU K o f :: (Wc ++ Wr))) (hS : va_S (fun q : Nat => s.heap.size ≤ q) s.heap H locs) (hl : lv_has ls 7 [(0, .ref b), (1, .ref hx), (2, .ref hm), (3, .ref o), (4, .int (nI i))])
    (HC : ∀ (Wc2 Wr2 : va_W) (f2 : Nat → Int64) (H : Heap) (locs : List Loc) (ls : Array Slot), SIM K hx hm Wc2 Wr2 → va_P D vwCl (oU K o f2 :: (Wc2 ++ Wr2)) H → va_D (fun q : Nat => s.heap.size ≤ q) (oU K o f2 :: (Wc2 ++ Wr2)) → va_S (fun q : Nat => s.heap.size ≤ q) s.heap H locs → lv_has ls 7 [(0, .ref b), (1, .ref hx), (2, .ref hm), (3, .ref o), (4, .int (nI i))] → W p l e room_1 s m #[Value.ref b] below meth c H locs (cells + 1) (slots + 6) Q (F0 m 1512 ls [])) :
    W p l e room_1 s m #[Value.ref b] below meth c H locs cells slots Q (F0 m 262 ls []) := by
  obtain ⟨C0, hTX, hX, hbl, hL⟩ := id C
  obtain ⟨⟨hx1, hb, hml, hown, hts⟩, hK, hA, -⟩ := id C0
  obtain ⟨⟨fs1, he1⟩, ⟨fs2, he2⟩⟩ := SIM_hd hsim
  have hbA : ¬ (fun q : Nat => s.heap.size ≤ q) b := Nat.not_le.mpr hbl
  have hc0 : cells + 0 ≤ room_1.cells ∧ slots + 0 ≤ room_1.slots := ⟨show cells + 0 ≤ 601024 by omega, show slots + 0 ≤ 7293034 by omega⟩
  obtain ⟨v, Wc2, Wr2, h1, h2, hsim2⟩ := sim_fault l D hsim (bz (xs (nI i + (1 : Int32)).toNatClampNeg))
  refine lv_aload_n hx1 hb dL_law_262 rfl (lv_at hl 1 rfl) ?_
  refine lv_aload_n hx1 hb dL_law_263 rfl (lv_at hl 0 rfl) ?_
  refine lv_iload hx1 hb dL_law_264 (lv_at hl 4 rfl) ?_
  refine lv_iconst (v := 1) hx1 hb dL_law_266 (by decide) ?_
  refine lv_iadd hx1 hb dL_law_267 ?_
  refine va_sld hx1 hb hX hbl hbA hS (li_ (j := 1) (by omega) hL) dL_law_268 ?_
  refine lw_b hx1 hb dL_law_269 dL_law_272 dL_law_273 dL_law_276 ?_
  refine xq_i (wc := Wc) (wr := oU K o f :: Wr) (w1 := Wc2) (wn := oU K o f :: (Wc2 ++ Wr)) (pX _ _ _) (qX _ _ _) hP hD hS hA (va_runV (As := [.int (bz (xs (nI i + (1 : Int32)).toNatClampNeg))]) (rest := []) C0.1 (h1 H.size) (cwV 1 hts gL_law_X10_fault rfl rfl rfl (by decide +kernel) ⟨Nat.le_of_ble_eq_true rfl, Nat.le_of_ble_eq_true rfl⟩) (yq_V C0.2 hP hD hS (pX _ _ _) 9 0 rfl he1 rfl) rfl rfl hl.1 rfl (lv_room (Nat.le_of_ble_eq_true rfl)) dL_law_277 hc0) (fun H locs hP hD hS => ?_)
  refine lv_aload_n hx1 hb dL_law_280 rfl (lv_at hl 2 rfl) ?_
  refine lv_aload_n hx1 hb dL_law_281 rfl (lv_at hl 0 rfl) ?_
  refine lv_iload hx1 hb dL_law_282 (lv_at hl 4 rfl) ?_
  refine lv_iconst (v := 1) hx1 hb dL_law_284 (by decide) ?_
  refine lv_iadd hx1 hb dL_law_285 ?_
  refine va_sld hx1 hb hX hbl hbA hS (li_ (j := 1) (by omega) hL) dL_law_286 ?_
  refine lw_b hx1 hb dL_law_287 dL_law_290 dL_law_291 dL_law_294 ?_
  refine xq_i (wc := Wr) (wr := oU K o f :: Wc2) (w1 := Wr2) (wn := oU K o f :: (Wc2 ++ Wr2)) (pM _ _ _) (qM _ _ _) hP hD hS hA (va_runV (As := [.int (bz (xs (nI i + (1 : Int32)).toNatClampNeg))]) (rest := [.int v]) C0.1 (h2 H.size) (cwV 1 hts gL_law_X11_fault rfl rfl rfl (by decide +kernel) ⟨Nat.le_of_ble_eq_true rfl, Nat.le_of_ble_eq_true rfl⟩) (yq_V C0.2 hP hD hS (pM _ _ _) 10 0 rfl he2 rfl) rfl rfl hl.1 rfl (lv_room (Nat.le_of_ble_eq_true rfl)) dL_law_295 hc0) (fun H locs hP hD hS => ?_)
  refine lv_icmp_eq (tgt := 1512) hx1 hb dL_law_298 (by decide) (fun c_ => ?_) (fun c_ => absurd rfl c_)
  refine W.widen (k := cells + 1) (n := slots + 6) (by omega) (by omega) ?_
  exact HC Wc2 Wr2 f H locs ls hsim2 hP hD hS hl
set_option maxHeartbeats 4000000 in
set_option maxRecDepth 100000 in
theorem lc_3 {p : Program} {l : Launch} {e : Env} {s : State} {m : MethodId} {below : List Frame} {meth : Method} {c : Code} {Q : State → Prop} {b L : Nat} {xs : Nat → Int32} {D : va_G} {K : Nat → ClassId} (C : LC p s m c b L xs D K) {i cells slots : Nat} (hi : i + 6 ≤ L) (hcs : cells + 1 ≤ 601024 ∧ slots + 6 ≤ 7293034) {hx hm o : Nat} {f : Nat → Int64} {Wc Wr : va_W} (hsim : SIM K hx hm Wc Wr) {H : Heap} {locs : List Loc} {ls : Array Slot} (hP : va_P D vwCl (oU K o f :: (Wc ++ Wr)) H) (hD : va_D (fun q : Nat => s.heap.size ≤ q) (oU K o f :: (Wc ++ Wr))) (hS : va_S (fun q : Nat => s.heap.size ≤ q) s.heap H locs) (hl : lv_has ls 7 [(0, .ref b), (1, .ref hx), (2, .ref hm), (3, .ref o), (4, .int (nI i))])
    (HC : ∀ (Wc2 Wr2 : va_W) (f2 : Nat → Int64) (H : Heap) (locs : List Loc) (ls : Array Slot), SIM K hx hm Wc2 Wr2 → va_P D vwCl (oU K o f2 :: (Wc2 ++ Wr2)) H → va_D (fun q : Nat => s.heap.size ≤ q) (oU K o f2 :: (Wc2 ++ Wr2)) → va_S (fun q : Nat => s.heap.size ≤ q) s.heap H locs → lv_has ls 7 [(0, .ref b), (1, .ref hx), (2, .ref hm), (3, .ref o), (4, .int (nI i))] → W p l e room_1 s m #[Value.ref b] below meth c H locs (cells + 1) (slots + 6) Q (F0 m 1512 ls [])) :
    W p l e room_1 s m #[Value.ref b] below meth c H locs cells slots Q (F0 m 303 ls []) := by
  obtain ⟨C0, hTX, hX, hbl, hL⟩ := id C
  obtain ⟨⟨hx1, hb, hml, hown, hts⟩, hK, hA, -⟩ := id C0
  obtain ⟨⟨fs1, he1⟩, ⟨fs2, he2⟩⟩ := SIM_hd hsim
  have hbA : ¬ (fun q : Nat => s.heap.size ≤ q) b := Nat.not_le.mpr hbl
  have hc0 : cells + 0 ≤ room_1.cells ∧ slots + 0 ≤ room_1.slots := ⟨show cells + 0 ≤ 601024 by omega, show slots + 0 ≤ 7293034 by omega⟩
  obtain ⟨v, Wc2, Wr2, h1, h2, hsim2⟩ := sim_gap l D hsim (xs (nI i + (1 : Int32)).toNatClampNeg) (decide (¬ (xs (nI i + (2 : Int32)).toNatClampNeg) = 0))
  rw [← bz_b] at h1 h2
  refine lv_aload_n hx1 hb dL_law_303 rfl (lv_at hl 1 rfl) ?_
  refine lv_aload_n hx1 hb dL_law_304 rfl (lv_at hl 0 rfl) ?_
  refine lv_iload hx1 hb dL_law_305 (lv_at hl 4 rfl) ?_
  refine lv_iconst (v := 1) hx1 hb dL_law_307 (by decide) ?_
  refine lv_iadd hx1 hb dL_law_308 ?_
  refine va_sld hx1 hb hX hbl hbA hS (li_ (j := 1) (by omega) hL) dL_law_309 ?_
  refine lv_aload_n hx1 hb dL_law_310 rfl (lv_at hl 0 rfl) ?_
  refine lv_iload hx1 hb dL_law_311 (lv_at hl 4 rfl) ?_
  refine lv_iconst (v := 2) hx1 hb dL_law_313 (by decide) ?_
  refine lv_iadd hx1 hb dL_law_314 ?_
  refine va_sld hx1 hb hX hbl hbA hS (li_ (j := 2) (by omega) hL) dL_law_315 ?_
  refine lw_b hx1 hb dL_law_316 dL_law_319 dL_law_320 dL_law_323 ?_
  refine xq_i (wc := Wc) (wr := oU K o f :: Wr) (w1 := Wc2) (wn := oU K o f :: (Wc2 ++ Wr)) (pX _ _ _) (qX _ _ _) hP hD hS hA (va_runV (As := [.int (xs (nI i + (1 : Int32)).toNatClampNeg), .int (bz (xs (nI i + (2 : Int32)).toNatClampNeg))]) (rest := []) C0.1 (h1 H.size) (cwV 2 hts gL_law_X10_gap rfl rfl rfl (by decide +kernel) ⟨Nat.le_of_ble_eq_true rfl, Nat.le_of_ble_eq_true rfl⟩) (yq_V C0.2 hP hD hS (pX _ _ _) 9 0 rfl he1 rfl) rfl rfl hl.1 rfl (lv_room (Nat.le_of_ble_eq_true rfl)) dL_law_324 hc0) (fun H locs hP hD hS => ?_)
  refine lv_aload_n hx1 hb dL_law_327 rfl (lv_at hl 2 rfl) ?_
  refine lv_aload_n hx1 hb dL_law_328 rfl (lv_at hl 0 rfl) ?_
  refine lv_iload hx1 hb dL_law_329 (lv_at hl 4 rfl) ?_
  refine lv_iconst (v := 1) hx1 hb dL_law_331 (by decide) ?_
  refine lv_iadd hx1 hb dL_law_332 ?_
  refine va_sld hx1 hb hX hbl hbA hS (li_ (j := 1) (by omega) hL) dL_law_333 ?_
  refine lv_aload_n hx1 hb dL_law_334 rfl (lv_at hl 0 rfl) ?_
  refine lv_iload hx1 hb dL_law_335 (lv_at hl 4 rfl) ?_
  refine lv_iconst (v := 2) hx1 hb dL_law_337 (by decide) ?_
  refine lv_iadd hx1 hb dL_law_338 ?_
  refine va_sld hx1 hb hX hbl hbA hS (li_ (j := 2) (by omega) hL) dL_law_339 ?_
  refine lw_b hx1 hb dL_law_340 dL_law_343 dL_law_344 dL_law_347 ?_
  refine xq_i (wc := Wr) (wr := oU K o f :: Wc2) (w1 := Wr2) (wn := oU K o f :: (Wc2 ++ Wr2)) (pM _ _ _) (qM _ _ _) hP hD hS hA (va_runV (As := [.int (xs (nI i + (1 : Int32)).toNatClampNeg), .int (bz (xs (nI i + (2 : Int32)).toNatClampNeg))]) (rest := [.int v]) C0.1 (h2 H.size) (cwV 2 hts gL_law_X11_gap rfl rfl rfl (by decide +kernel) ⟨Nat.le_of_ble_eq_true rfl, Nat.le_of_ble_eq_true rfl⟩) (yq_V C0.2 hP hD hS (pM _ _ _) 10 0 rfl he2 rfl) rfl rfl hl.1 rfl (lv_room (Nat.le_of_ble_eq_true rfl)) dL_law_348 hc0) (fun H locs hP hD hS => ?_)
  refine lv_icmp_eq (tgt := 1512) hx1 hb dL_law_351 (by decide) (fun c_ => ?_) (fun c_ => absurd rfl c_)
  refine W.widen (k := cells + 1) (n := slots + 6) (by omega) (by omega) ?_
  exact HC Wc2 Wr2 f H locs ls hsim2 hP hD hS hl
set_option maxHeartbeats 4000000 in
set_option maxRecDepth 100000 in
theorem lc_4 {p : Program} {l : Launch} {e : Env} {s : State} {m : MethodId} {below : List Frame} {meth : Method} {c : Code} {Q : State → Prop} {b L : Nat} {xs : Nat → Int32} {D : va_G} {K : Nat → ClassId} (C : LC p s m c b L xs D K) {i cells slots : Nat} (hi : i + 6 ≤ L) (hcs : cells + 1 ≤ 601024 ∧ slots + 6 ≤ 7293034) {hx hm o : Nat} {f : Nat → Int64} {Wc Wr : va_W} (hsim : SIM K hx hm Wc Wr) {H : Heap} {locs : List Loc} {ls : Array Slot} (hP : va_P D vwCl (oU K o f :: (Wc ++ Wr)) H) (hD : va_D (fun q : Nat => s.heap.size ≤ q) (oU K o f :: (Wc ++ Wr))) (hS : va_S (fun q : Nat => s.heap.size ≤ q) s.heap H locs) (hl : lv_has ls 7 [(0, .ref b), (1, .ref hx), (2, .ref hm), (3, .ref o), (4, .int (nI i))])
    (HC : ∀ (Wc2 Wr2 : va_W) (f2 : Nat → Int64) (H : Heap) (locs : List Loc) (ls : Array Slot), SIM K hx hm Wc2 Wr2 → va_P D vwCl (oU K o f2 :: (Wc2 ++ Wr2)) H → va_D (fun q : Nat => s.heap.size ≤ q) (oU K o f2 :: (Wc2 ++ Wr2)) → va_S (fun q : Nat => s.heap.size ≤ q) s.heap H locs → lv_has ls 7 [(0, .ref b), (1, .ref hx), (2, .ref hm), (3, .ref o), (4, .int (nI i))] → W p l e room_1 s m #[Value.ref b] below meth c H locs (cells + 1) (slots + 6) Q (F0 m 1512 ls [])) :
    W p l e room_1 s m #[Value.ref b] below meth c H locs cells slots Q (F0 m 356 ls []) := by
  obtain ⟨C0, hTX, hX, hbl, hL⟩ := id C
  obtain ⟨⟨hx1, hb, hml, hown, hts⟩, hK, hA, -⟩ := id C0
  obtain ⟨⟨fs1, he1⟩, ⟨fs2, he2⟩⟩ := SIM_hd hsim
  have hbA : ¬ (fun q : Nat => s.heap.size ≤ q) b := Nat.not_le.mpr hbl
  have hc0 : cells + 0 ≤ room_1.cells ∧ slots + 0 ≤ room_1.slots := ⟨show cells + 0 ≤ 601024 by omega, show slots + 0 ≤ 7293034 by omega⟩
  obtain ⟨v, Wc2, Wr2, h1, h2, hsim2⟩ := sim_set l D hsim (xs (nI i + (1 : Int32)).toNatClampNeg) (xs (nI i + (2 : Int32)).toNatClampNeg)
  refine lv_aload_n hx1 hb dL_law_356 rfl (lv_at hl 1 rfl) ?_
  refine lv_aload_n hx1 hb dL_law_357 rfl (lv_at hl 0 rfl) ?_
  refine lv_iload hx1 hb dL_law_358 (lv_at hl 4 rfl) ?_
  refine lv_iconst (v := 1) hx1 hb dL_law_360 (by decide) ?_
  refine lv_iadd hx1 hb dL_law_361 ?_
  refine va_sld hx1 hb hX hbl hbA hS (li_ (j := 1) (by omega) hL) dL_law_362 ?_
  refine lv_aload_n hx1 hb dL_law_363 rfl (lv_at hl 0 rfl) ?_
  refine lv_iload hx1 hb dL_law_364 (lv_at hl 4 rfl) ?_
  refine lv_iconst (v := 2) hx1 hb dL_law_366 (by decide) ?_
  refine lv_iadd hx1 hb dL_law_367 ?_
  refine va_sld hx1 hb hX hbl hbA hS (li_ (j := 2) (by omega) hL) dL_law_368 ?_
  refine xq_i (wc := Wc) (wr := oU K o f :: Wr) (w1 := Wc2) (wn := oU K o f :: (Wc2 ++ Wr)) (pX _ _ _) (qX _ _ _) hP hD hS hA (va_runV (As := [.int (xs (nI i + (1 : Int32)).toNatClampNeg), .int (xs (nI i + (2 : Int32)).toNatClampNeg)]) (rest := []) C0.1 (h1 H.size) (cwV 2 hts gL_law_X10_set rfl rfl rfl (by decide +kernel) ⟨Nat.le_of_ble_eq_true rfl, Nat.le_of_ble_eq_true rfl⟩) (yq_V C0.2 hP hD hS (pX _ _ _) 9 0 rfl he1 rfl) rfl rfl hl.1 rfl (lv_room (Nat.le_of_ble_eq_true rfl)) dL_law_369 hc0) (fun H locs hP hD hS => ?_)
  refine lv_aload_n hx1 hb dL_law_372 rfl (lv_at hl 2 rfl) ?_
  refine lv_aload_n hx1 hb dL_law_373 rfl (lv_at hl 0 rfl) ?_
  refine lv_iload hx1 hb dL_law_374 (lv_at hl 4 rfl) ?_
  refine lv_iconst (v := 1) hx1 hb dL_law_376 (by decide) ?_
  refine lv_iadd hx1 hb dL_law_377 ?_
  refine va_sld hx1 hb hX hbl hbA hS (li_ (j := 1) (by omega) hL) dL_law_378 ?_
  refine lv_aload_n hx1 hb dL_law_379 rfl (lv_at hl 0 rfl) ?_
  refine lv_iload hx1 hb dL_law_380 (lv_at hl 4 rfl) ?_
  refine lv_iconst (v := 2) hx1 hb dL_law_382 (by decide) ?_
  refine lv_iadd hx1 hb dL_law_383 ?_
  refine va_sld hx1 hb hX hbl hbA hS (li_ (j := 2) (by omega) hL) dL_law_384 ?_
  refine xq_i (wc := Wr) (wr := oU K o f :: Wc2) (w1 := Wr2) (wn := oU K o f :: (Wc2 ++ Wr2)) (pM _ _ _) (qM _ _ _) hP hD hS hA (va_runV (As := [.int (xs (nI i + (1 : Int32)).toNatClampNeg), .int (xs (nI i + (2 : Int32)).toNatClampNeg)]) (rest := [.int v]) C0.1 (h2 H.size) (cwV 2 hts gL_law_X11_set rfl rfl rfl (by decide +kernel) ⟨Nat.le_of_ble_eq_true rfl, Nat.le_of_ble_eq_true rfl⟩) (yq_V C0.2 hP hD hS (pM _ _ _) 10 0 rfl he2 rfl) rfl rfl hl.1 rfl (lv_room (Nat.le_of_ble_eq_true rfl)) dL_law_385 hc0) (fun H locs hP hD hS => ?_)
  refine lv_icmp_eq (tgt := 1512) hx1 hb dL_law_388 (by decide) (fun c_ => ?_) (fun c_ => absurd rfl c_)
  refine W.widen (k := cells + 1) (n := slots + 6) (by omega) (by omega) ?_
  exact HC Wc2 Wr2 f H locs ls hsim2 hP hD hS hl
set_option maxHeartbeats 4000000 in
set_option maxRecDepth 100000 in
theorem lc_5 {p : Program} {l : Launch} {e : Env} {s : State} {m : MethodId} {below : List Frame} {meth : Method} {c : Code} {Q : State → Prop} {b L : Nat} {xs : Nat → Int32} {D : va_G} {K : Nat → ClassId} (C : LC p s m c b L xs D K) {i cells slots : Nat} (hi : i + 6 ≤ L) (hcs : cells + 1 ≤ 601024 ∧ slots + 6 ≤ 7293034) {hx hm o : Nat} {f : Nat → Int64} {Wc Wr : va_W} (hsim : SIM K hx hm Wc Wr) {H : Heap} {locs : List Loc} {ls : Array Slot} (hP : va_P D vwCl (oU K o f :: (Wc ++ Wr)) H) (hD : va_D (fun q : Nat => s.heap.size ≤ q) (oU K o f :: (Wc ++ Wr))) (hS : va_S (fun q : Nat => s.heap.size ≤ q) s.heap H locs) (hl : lv_has ls 7 [(0, .ref b), (1, .ref hx), (2, .ref hm), (3, .ref o), (4, .int (nI i))])
    (HC : ∀ (Wc2 Wr2 : va_W) (f2 : Nat → Int64) (H : Heap) (locs : List Loc) (ls : Array Slot), SIM K hx hm Wc2 Wr2 → va_P D vwCl (oU K o f2 :: (Wc2 ++ Wr2)) H → va_D (fun q : Nat => s.heap.size ≤ q) (oU K o f2 :: (Wc2 ++ Wr2)) → va_S (fun q : Nat => s.heap.size ≤ q) s.heap H locs → lv_has ls 7 [(0, .ref b), (1, .ref hx), (2, .ref hm), (3, .ref o), (4, .int (nI i))] → W p l e room_1 s m #[Value.ref b] below meth c H locs (cells + 1) (slots + 6) Q (F0 m 1512 ls [])) :
    W p l e room_1 s m #[Value.ref b] below meth c H locs cells slots Q (F0 m 393 ls []) := by
  obtain ⟨C0, hTX, hX, hbl, hL⟩ := id C
  obtain ⟨⟨hx1, hb, hml, hown, hts⟩, hK, hA, -⟩ := id C0
  obtain ⟨⟨fs1, he1⟩, ⟨fs2, he2⟩⟩ := SIM_hd hsim
  have hbA : ¬ (fun q : Nat => s.heap.size ≤ q) b := Nat.not_le.mpr hbl
  have hc0 : cells + 0 ≤ room_1.cells ∧ slots + 0 ≤ room_1.slots := ⟨show cells + 0 ≤ 601024 by omega, show slots + 0 ≤ 7293034 by omega⟩
  obtain ⟨v, Wc2, Wr2, h1, h2, hsim2⟩ := sim_target l D hsim (xs (nI i + (1 : Int32)).toNatClampNeg) (xs (nI i + (2 : Int32)).toNatClampNeg) (xs (nI i + (3 : Int32)).toNatClampNeg)
  refine lv_aload_n hx1 hb dL_law_393 rfl (lv_at hl 1 rfl) ?_
  refine lv_aload_n hx1 hb dL_law_394 rfl (lv_at hl 0 rfl) ?_
  refine lv_iload hx1 hb dL_law_395 (lv_at hl 4 rfl) ?_
  refine lv_iconst (v := 1) hx1 hb dL_law_397 (by decide) ?_
  refine lv_iadd hx1 hb dL_law_398 ?_
  refine va_sld hx1 hb hX hbl hbA hS (li_ (j := 1) (by omega) hL) dL_law_399 ?_
  refine lv_aload_n hx1 hb dL_law_400 rfl (lv_at hl 0 rfl) ?_
  refine lv_iload hx1 hb dL_law_401 (lv_at hl 4 rfl) ?_
  refine lv_iconst (v := 2) hx1 hb dL_law_403 (by decide) ?_
  refine lv_iadd hx1 hb dL_law_404 ?_
  refine va_sld hx1 hb hX hbl hbA hS (li_ (j := 2) (by omega) hL) dL_law_405 ?_
  refine lv_aload_n hx1 hb dL_law_406 rfl (lv_at hl 0 rfl) ?_
  refine lv_iload hx1 hb dL_law_407 (lv_at hl 4 rfl) ?_
  refine lv_iconst (v := 3) hx1 hb dL_law_409 (by decide) ?_
  refine lv_iadd hx1 hb dL_law_410 ?_
  refine va_sld hx1 hb hX hbl hbA hS (li_ (j := 3) (by omega) hL) dL_law_411 ?_
  refine xq_i (wc := Wc) (wr := oU K o f :: Wr) (w1 := Wc2) (wn := oU K o f :: (Wc2 ++ Wr)) (pX _ _ _) (qX _ _ _) hP hD hS hA (va_runV (As := [.int (xs (nI i + (1 : Int32)).toNatClampNeg), .int (xs (nI i + (2 : Int32)).toNatClampNeg), .int (xs (nI i + (3 : Int32)).toNatClampNeg)]) (rest := []) C0.1 (h1 H.size) (cwV 3 hts gL_law_X10_target rfl rfl rfl (by decide +kernel) ⟨Nat.le_of_ble_eq_true rfl, Nat.le_of_ble_eq_true rfl⟩) (yq_V C0.2 hP hD hS (pX _ _ _) 9 0 rfl he1 rfl) rfl rfl hl.1 rfl (lv_room (Nat.le_of_ble_eq_true rfl)) dL_law_412 hc0) (fun H locs hP hD hS => ?_)
  refine lv_aload_n hx1 hb dL_law_415 rfl (lv_at hl 2 rfl) ?_
  refine lv_aload_n hx1 hb dL_law_416 rfl (lv_at hl 0 rfl) ?_
  refine lv_iload hx1 hb dL_law_417 (lv_at hl 4 rfl) ?_
  refine lv_iconst (v := 1) hx1 hb dL_law_419 (by decide) ?_
  refine lv_iadd hx1 hb dL_law_420 ?_
  refine va_sld hx1 hb hX hbl hbA hS (li_ (j := 1) (by omega) hL) dL_law_421 ?_
  refine lv_aload_n hx1 hb dL_law_422 rfl (lv_at hl 0 rfl) ?_
  refine lv_iload hx1 hb dL_law_423 (lv_at hl 4 rfl) ?_
  refine lv_iconst (v := 2) hx1 hb dL_law_425 (by decide) ?_
  refine lv_iadd hx1 hb dL_law_426 ?_
  refine va_sld hx1 hb hX hbl hbA hS (li_ (j := 2) (by omega) hL) dL_law_427 ?_
  refine lv_aload_n hx1 hb dL_law_428 rfl (lv_at hl 0 rfl) ?_
  refine lv_iload hx1 hb dL_law_429 (lv_at hl 4 rfl) ?_
  refine lv_iconst (v := 3) hx1 hb dL_law_431 (by decide) ?_
  refine lv_iadd hx1 hb dL_law_432 ?_
  refine va_sld hx1 hb hX hbl hbA hS (li_ (j := 3) (by omega) hL) dL_law_433 ?_
  refine xq_i (wc := Wr) (wr := oU K o f :: Wc2) (w1 := Wr2) (wn := oU K o f :: (Wc2 ++ Wr2)) (pM _ _ _) (qM _ _ _) hP hD hS hA (va_runV (As := [.int (xs (nI i + (1 : Int32)).toNatClampNeg), .int (xs (nI i + (2 : Int32)).toNatClampNeg), .int (xs (nI i + (3 : Int32)).toNatClampNeg)]) (rest := [.int v]) C0.1 (h2 H.size) (cwV 3 hts gL_law_X11_target rfl rfl rfl (by decide +kernel) ⟨Nat.le_of_ble_eq_true rfl, Nat.le_of_ble_eq_true rfl⟩) (yq_V C0.2 hP hD hS (pM _ _ _) 10 0 rfl he2 rfl) rfl rfl hl.1 rfl (lv_room (Nat.le_of_ble_eq_true rfl)) dL_law_434 hc0) (fun H locs hP hD hS => ?_)
  refine lv_icmp_eq (tgt := 1512) hx1 hb dL_law_437 (by decide) (fun c_ => ?_) (fun c_ => absurd rfl c_)
  refine W.widen (k := cells + 1) (n := slots + 6) (by omega) (by omega) ?_
  exact HC Wc2 Wr2 f H locs ls hsim2 hP hD hS hl
set_option maxHeartbeats 4000000 in
set_option maxRecDepth 100000 in
theorem lc_6 {p : Program} {l : Launch} {e : Env} {s : State} {m : MethodId} {below : List Frame} {meth : Method} {c : Code} {Q : State → Prop} {b L : Nat} {xs : Nat → Int32} {D : va_G} {K : Nat → ClassId} (C : LC p s m c b L xs D K) {i cells slots : Nat} (hi : i + 6 ≤ L) (hcs : cells + 1 ≤ 601024 ∧ slots + 6 ≤ 7293034) {hx hm o : Nat} {f : Nat → Int64} {Wc Wr : va_W} (hsim : SIM K hx hm Wc Wr) {H : Heap} {locs : List Loc} {ls : Array Slot} (hP : va_P D vwCl (oU K o f :: (Wc ++ Wr)) H) (hD : va_D (fun q : Nat => s.heap.size ≤ q) (oU K o f :: (Wc ++ Wr))) (hS : va_S (fun q : Nat => s.heap.size ≤ q) s.heap H locs) (hl : lv_has ls 7 [(0, .ref b), (1, .ref hx), (2, .ref hm), (3, .ref o), (4, .int (nI i))])
    (HC : ∀ (Wc2 Wr2 : va_W) (f2 : Nat → Int64) (H : Heap) (locs : List Loc) (ls : Array Slot), SIM K hx hm Wc2 Wr2 → va_P D vwCl (oU K o f2 :: (Wc2 ++ Wr2)) H → va_D (fun q : Nat => s.heap.size ≤ q) (oU K o f2 :: (Wc2 ++ Wr2)) → va_S (fun q : Nat => s.heap.size ≤ q) s.heap H locs → lv_has ls 7 [(0, .ref b), (1, .ref hx), (2, .ref hm), (3, .ref o), (4, .int (nI i))] → W p l e room_1 s m #[Value.ref b] below meth c H locs (cells + 1) (slots + 6) Q (F0 m 1512 ls [])) :
    W p l e room_1 s m #[Value.ref b] below meth c H locs cells slots Q (F0 m 442 ls []) := by
  obtain ⟨C0, hTX, hX, hbl, hL⟩ := id C
  obtain ⟨⟨hx1, hb, hml, hown, hts⟩, hK, hA, -⟩ := id C0
  obtain ⟨⟨fs1, he1⟩, ⟨fs2, he2⟩⟩ := SIM_hd hsim
  have hbA : ¬ (fun q : Nat => s.heap.size ≤ q) b := Nat.not_le.mpr hbl
  have hc0 : cells + 0 ≤ room_1.cells ∧ slots + 0 ≤ room_1.slots := ⟨show cells + 0 ≤ 601024 by omega, show slots + 0 ≤ 7293034 by omega⟩
  obtain ⟨v, Wc2, Wr2, h1, h2, hsim2⟩ := sim_leave l D hsim (xs (nI i + (1 : Int32)).toNatClampNeg)
  refine lv_aload_n hx1 hb dL_law_442 rfl (lv_at hl 1 rfl) ?_
  refine lv_aload_n hx1 hb dL_law_443 rfl (lv_at hl 0 rfl) ?_
  refine lv_iload hx1 hb dL_law_444 (lv_at hl 4 rfl) ?_
  refine lv_iconst (v := 1) hx1 hb dL_law_446 (by decide) ?_
  refine lv_iadd hx1 hb dL_law_447 ?_
  refine va_sld hx1 hb hX hbl hbA hS (li_ (j := 1) (by omega) hL) dL_law_448 ?_
  refine xq_i (wc := Wc) (wr := oU K o f :: Wr) (w1 := Wc2) (wn := oU K o f :: (Wc2 ++ Wr)) (pX _ _ _) (qX _ _ _) hP hD hS hA (va_runV (As := [.int (xs (nI i + (1 : Int32)).toNatClampNeg)]) (rest := []) C0.1 (h1 H.size) (cwV 1 hts gL_law_X10_leave rfl rfl rfl (by decide +kernel) ⟨Nat.le_of_ble_eq_true rfl, Nat.le_of_ble_eq_true rfl⟩) (yq_V C0.2 hP hD hS (pX _ _ _) 9 0 rfl he1 rfl) rfl rfl hl.1 rfl (lv_room (Nat.le_of_ble_eq_true rfl)) dL_law_449 hc0) (fun H locs hP hD hS => ?_)
  refine lv_aload_n hx1 hb dL_law_452 rfl (lv_at hl 2 rfl) ?_
  refine lv_aload_n hx1 hb dL_law_453 rfl (lv_at hl 0 rfl) ?_
  refine lv_iload hx1 hb dL_law_454 (lv_at hl 4 rfl) ?_
  refine lv_iconst (v := 1) hx1 hb dL_law_456 (by decide) ?_
  refine lv_iadd hx1 hb dL_law_457 ?_
  refine va_sld hx1 hb hX hbl hbA hS (li_ (j := 1) (by omega) hL) dL_law_458 ?_
  refine xq_i (wc := Wr) (wr := oU K o f :: Wc2) (w1 := Wr2) (wn := oU K o f :: (Wc2 ++ Wr2)) (pM _ _ _) (qM _ _ _) hP hD hS hA (va_runV (As := [.int (xs (nI i + (1 : Int32)).toNatClampNeg)]) (rest := [.int v]) C0.1 (h2 H.size) (cwV 1 hts gL_law_X11_leave rfl rfl rfl (by decide +kernel) ⟨Nat.le_of_ble_eq_true rfl, Nat.le_of_ble_eq_true rfl⟩) (yq_V C0.2 hP hD hS (pM _ _ _) 10 0 rfl he2 rfl) rfl rfl hl.1 rfl (lv_room (Nat.le_of_ble_eq_true rfl)) dL_law_459 hc0) (fun H locs hP hD hS => ?_)
  refine lv_icmp_eq (tgt := 1512) hx1 hb dL_law_462 (by decide) (fun c_ => ?_) (fun c_ => absurd rfl c_)
  refine W.widen (k := cells + 1) (n := slots + 6) (by omega) (by omega) ?_
  exact HC Wc2 Wr2 f H locs ls hsim2 hP hD hS hl
set_option maxHeartbeats 4000000 in
set_option maxRecDepth 100000 in
theorem lc_7 {p : Program} {l : Launch} {e : Env} {s : State} {m : MethodId} {below : List Frame} {meth : Method} {c : Code} {Q : State → Prop} {b L : Nat} {xs : Nat → Int32} {D : va_G} {K : Nat → ClassId} (C : LC p s m c b L xs D K) {i cells slots : Nat} (hi : i + 6 ≤ L) (hcs : cells + 1 ≤ 601024 ∧ slots + 6 ≤ 7293034) {hx hm o : Nat} {f : Nat → Int64} {Wc Wr : va_W} (hsim : SIM K hx hm Wc Wr) {H : Heap} {locs : List Loc} {ls : Array Slot} (hP : va_P D vwCl (oU K o f :: (Wc ++ Wr)) H) (hD : va_D (fun q : Nat => s.heap.size ≤ q) (oU K o f :: (Wc ++ Wr))) (hS : va_S (fun q : Nat => s.heap.size ≤ q) s.heap H locs) (hl : lv_has ls 7 [(0, .ref b), (1, .ref hx), (2, .ref hm), (3, .ref o), (4, .int (nI i))])
    (HC : ∀ (Wc2 Wr2 : va_W) (f2 : Nat → Int64) (H : Heap) (locs : List Loc) (ls : Array Slot), SIM K hx hm Wc2 Wr2 → va_P D vwCl (oU K o f2 :: (Wc2 ++ Wr2)) H → va_D (fun q : Nat => s.heap.size ≤ q) (oU K o f2 :: (Wc2 ++ Wr2)) → va_S (fun q : Nat => s.heap.size ≤ q) s.heap H locs → lv_has ls 7 [(0, .ref b), (1, .ref hx), (2, .ref hm), (3, .ref o), (4, .int (nI i))] → W p l e room_1 s m #[Value.ref b] below meth c H locs (cells + 1) (slots + 6) Q (F0 m 1512 ls [])) :
    W p l e room_1 s m #[Value.ref b] below meth c H locs cells slots Q (F0 m 467 ls []) := by
  obtain ⟨C0, hTX, hX, hbl, hL⟩ := id C
  obtain ⟨⟨hx1, hb, hml, hown, hts⟩, hK, hA, -⟩ := id C0
  obtain ⟨⟨fs1, he1⟩, ⟨fs2, he2⟩⟩ := SIM_hd hsim
  have hbA : ¬ (fun q : Nat => s.heap.size ≤ q) b := Nat.not_le.mpr hbl
  have hc0 : cells + 0 ≤ room_1.cells ∧ slots + 0 ≤ room_1.slots := ⟨show cells + 0 ≤ 601024 by omega, show slots + 0 ≤ 7293034 by omega⟩
  obtain ⟨v, Wc2, Wr2, h1, h2, hsim2⟩ := sim_move l D hsim (xs (nI i + (1 : Int32)).toNatClampNeg)
  refine lv_aload_n hx1 hb dL_law_467 rfl (lv_at hl 1 rfl) ?_
  refine lv_aload_n hx1 hb dL_law_468 rfl (lv_at hl 0 rfl) ?_
  refine lv_iload hx1 hb dL_law_469 (lv_at hl 4 rfl) ?_
  refine lv_iconst (v := 1) hx1 hb dL_law_471 (by decide) ?_
  refine lv_iadd hx1 hb dL_law_472 ?_
  refine va_sld hx1 hb hX hbl hbA hS (li_ (j := 1) (by omega) hL) dL_law_473 ?_
  refine xq_i (wc := Wc) (wr := oU K o f :: Wr) (w1 := Wc2) (wn := oU K o f :: (Wc2 ++ Wr)) (pX _ _ _) (qX _ _ _) hP hD hS hA (va_runV (As := [.int (xs (nI i + (1 : Int32)).toNatClampNeg)]) (rest := []) C0.1 (h1 H.size) (cwV 1 hts gL_law_X10_move rfl rfl rfl (by decide +kernel) ⟨Nat.le_of_ble_eq_true rfl, Nat.le_of_ble_eq_true rfl⟩) (yq_V C0.2 hP hD hS (pX _ _ _) 9 0 rfl he1 rfl) rfl rfl hl.1 rfl (lv_room (Nat.le_of_ble_eq_true rfl)) dL_law_474 hc0) (fun H locs hP hD hS => ?_)
  refine lv_aload_n hx1 hb dL_law_477 rfl (lv_at hl 2 rfl) ?_
  refine lv_aload_n hx1 hb dL_law_478 rfl (lv_at hl 0 rfl) ?_
  refine lv_iload hx1 hb dL_law_479 (lv_at hl 4 rfl) ?_
  refine lv_iconst (v := 1) hx1 hb dL_law_481 (by decide) ?_
  refine lv_iadd hx1 hb dL_law_482 ?_
  refine va_sld hx1 hb hX hbl hbA hS (li_ (j := 1) (by omega) hL) dL_law_483 ?_
  refine xq_i (wc := Wr) (wr := oU K o f :: Wc2) (w1 := Wr2) (wn := oU K o f :: (Wc2 ++ Wr2)) (pM _ _ _) (qM _ _ _) hP hD hS hA (va_runV (As := [.int (xs (nI i + (1 : Int32)).toNatClampNeg)]) (rest := [.int v]) C0.1 (h2 H.size) (cwV 1 hts gL_law_X11_move rfl rfl rfl (by decide +kernel) ⟨Nat.le_of_ble_eq_true rfl, Nat.le_of_ble_eq_true rfl⟩) (yq_V C0.2 hP hD hS (pM _ _ _) 10 0 rfl he2 rfl) rfl rfl hl.1 rfl (lv_room (Nat.le_of_ble_eq_true rfl)) dL_law_484 hc0) (fun H locs hP hD hS => ?_)
  refine lv_icmp_eq (tgt := 1512) hx1 hb dL_law_487 (by decide) (fun c_ => ?_) (fun c_ => absurd rfl c_)
  refine W.widen (k := cells + 1) (n := slots + 6) (by omega) (by omega) ?_
  exact HC Wc2 Wr2 f H locs ls hsim2 hP hD hS hl
set_option maxHeartbeats 4000000 in
set_option maxRecDepth 100000 in
theorem lc_8 {p : Program} {l : Launch} {e : Env} {s : State} {m : MethodId} {below : List Frame} {meth : Method} {c : Code} {Q : State → Prop} {b L : Nat} {xs : Nat → Int32} {D : va_G} {K : Nat → ClassId} (C : LC p s m c b L xs D K) {i cells slots : Nat} (hi : i + 6 ≤ L) (hcs : cells + 1 ≤ 601024 ∧ slots + 6 ≤ 7293034) {hx hm o : Nat} {f : Nat → Int64} {Wc Wr : va_W} (hsim : SIM K hx hm Wc Wr) {H : Heap} {locs : List Loc} {ls : Array Slot} (hP : va_P D vwCl (oU K o f :: (Wc ++ Wr)) H) (hD : va_D (fun q : Nat => s.heap.size ≤ q) (oU K o f :: (Wc ++ Wr))) (hS : va_S (fun q : Nat => s.heap.size ≤ q) s.heap H locs) (hl : lv_has ls 7 [(0, .ref b), (1, .ref hx), (2, .ref hm), (3, .ref o), (4, .int (nI i))])
    (HC : ∀ (Wc2 Wr2 : va_W) (f2 : Nat → Int64) (H : Heap) (locs : List Loc) (ls : Array Slot), SIM K hx hm Wc2 Wr2 → va_P D vwCl (oU K o f2 :: (Wc2 ++ Wr2)) H → va_D (fun q : Nat => s.heap.size ≤ q) (oU K o f2 :: (Wc2 ++ Wr2)) → va_S (fun q : Nat => s.heap.size ≤ q) s.heap H locs → lv_has ls 7 [(0, .ref b), (1, .ref hx), (2, .ref hm), (3, .ref o), (4, .int (nI i))] → W p l e room_1 s m #[Value.ref b] below meth c H locs (cells + 1) (slots + 6) Q (F0 m 1512 ls [])) :
    W p l e room_1 s m #[Value.ref b] below meth c H locs cells slots Q (F0 m 492 ls []) := by
  obtain ⟨C0, hTX, hX, hbl, hL⟩ := id C
  obtain ⟨⟨hx1, hb, hml, hown, hts⟩, hK, hA, -⟩ := id C0
  obtain ⟨⟨fs1, he1⟩, ⟨fs2, he2⟩⟩ := SIM_hd hsim
  have hbA : ¬ (fun q : Nat => s.heap.size ≤ q) b := Nat.not_le.mpr hbl
  have hc0 : cells + 0 ≤ room_1.cells ∧ slots + 0 ≤ room_1.slots := ⟨show cells + 0 ≤ 601024 by omega, show slots + 0 ≤ 7293034 by omega⟩
  obtain ⟨v, Wc2, Wr2, h1, h2, hsim2⟩ := sim_look l D hsim 
  refine lv_aload_n hx1 hb dL_law_492 rfl (lv_at hl 1 rfl) ?_
  refine xq_i (wc := Wc) (wr := oU K o f :: Wr) (w1 := Wc2) (wn := oU K o f :: (Wc2 ++ Wr)) (pX _ _ _) (qX _ _ _) hP hD hS hA (va_runV (As := []) (rest := []) C0.1 (h1 H.size) (cwV 0 hts gL_law_X10_look rfl rfl rfl (by decide +kernel) ⟨Nat.le_of_ble_eq_true rfl, Nat.le_of_ble_eq_true rfl⟩) (yq_V C0.2 hP hD hS (pX _ _ _) 9 0 rfl he1 rfl) rfl rfl hl.1 rfl (lv_room (Nat.le_of_ble_eq_true rfl)) dL_law_493 hc0) (fun H locs hP hD hS => ?_)
  refine lv_aload_n hx1 hb dL_law_496 rfl (lv_at hl 2 rfl) ?_
  refine xq_i (wc := Wr) (wr := oU K o f :: Wc2) (w1 := Wr2) (wn := oU K o f :: (Wc2 ++ Wr2)) (pM _ _ _) (qM _ _ _) hP hD hS hA (va_runV (As := []) (rest := [.int v]) C0.1 (h2 H.size) (cwV 0 hts gL_law_X11_look rfl rfl rfl (by decide +kernel) ⟨Nat.le_of_ble_eq_true rfl, Nat.le_of_ble_eq_true rfl⟩) (yq_V C0.2 hP hD hS (pM _ _ _) 10 0 rfl he2 rfl) rfl rfl hl.1 rfl (lv_room (Nat.le_of_ble_eq_true rfl)) dL_law_497 hc0) (fun H locs hP hD hS => ?_)
  refine lv_icmp_eq (tgt := 1512) hx1 hb dL_law_500 (by decide) (fun c_ => ?_) (fun c_ => absurd rfl c_)
  refine W.widen (k := cells + 1) (n := slots + 6) (by omega) (by omega) ?_
  exact HC Wc2 Wr2 f H locs ls hsim2 hP hD hS hl
set_option maxHeartbeats 4000000 in
set_option maxRecDepth 100000 in
theorem lc_9 {p : Program} {l : Launch} {e : Env} {s : State} {m : MethodId} {below : List Frame} {meth : Method} {c : Code} {Q : State → Prop} {b L : Nat} {xs : Nat → Int32} {D : va_G} {K : Nat → ClassId} (C : LC p s m c b L xs D K) {i cells slots : Nat} (hi : i + 6 ≤ L) (hcs : cells + 1 ≤ 601024 ∧ slots + 6 ≤ 7293034) {hx hm o : Nat} {f : Nat → Int64} {Wc Wr : va_W} (hsim : SIM K hx hm Wc Wr) {H : Heap} {locs : List Loc} {ls : Array Slot} (hP : va_P D vwCl (oU K o f :: (Wc ++ Wr)) H) (hD : va_D (fun q : Nat => s.heap.size ≤ q) (oU K o f :: (Wc ++ Wr))) (hS : va_S (fun q : Nat => s.heap.size ≤ q) s.heap H locs) (hl : lv_has ls 7 [(0, .ref b), (1, .ref hx), (2, .ref hm), (3, .ref o), (4, .int (nI i))])
    (HC : ∀ (Wc2 Wr2 : va_W) (f2 : Nat → Int64) (H : Heap) (locs : List Loc) (ls : Array Slot), SIM K hx hm Wc2 Wr2 → va_P D vwCl (oU K o f2 :: (Wc2 ++ Wr2)) H → va_D (fun q : Nat => s.heap.size ≤ q) (oU K o f2 :: (Wc2 ++ Wr2)) → va_S (fun q : Nat => s.heap.size ≤ q) s.heap H locs → lv_has ls 7 [(0, .ref b), (1, .ref hx), (2, .ref hm), (3, .ref o), (4, .int (nI i))] → W p l e room_1 s m #[Value.ref b] below meth c H locs (cells + 1) (slots + 6) Q (F0 m 1512 ls [])) :
    W p l e room_1 s m #[Value.ref b] below meth c H locs cells slots Q (F0 m 505 ls []) := by
  obtain ⟨C0, hTX, hX, hbl, hL⟩ := id C
  obtain ⟨⟨hx1, hb, hml, hown, hts⟩, hK, hA, -⟩ := id C0
  obtain ⟨⟨fs1, he1⟩, ⟨fs2, he2⟩⟩ := SIM_hd hsim
  have hbA : ¬ (fun q : Nat => s.heap.size ≤ q) b := Nat.not_le.mpr hbl
  have hc0 : cells + 0 ≤ room_1.cells ∧ slots + 0 ≤ room_1.slots := ⟨show cells + 0 ≤ 601024 by omega, show slots + 0 ≤ 7293034 by omega⟩
  obtain ⟨v, Wc2, Wr2, h1, h2, hsim2⟩ := sim_undo l D hsim 
  refine lv_aload_n hx1 hb dL_law_505 rfl (lv_at hl 1 rfl) ?_
  refine xq_i (wc := Wc) (wr := oU K o f :: Wr) (w1 := Wc2) (wn := oU K o f :: (Wc2 ++ Wr)) (pX _ _ _) (qX _ _ _) hP hD hS hA (va_runV (As := []) (rest := []) C0.1 (h1 H.size) (cwV 0 hts gL_law_X10_undo rfl rfl rfl (by decide +kernel) ⟨Nat.le_of_ble_eq_true rfl, Nat.le_of_ble_eq_true rfl⟩) (yq_V C0.2 hP hD hS (pX _ _ _) 9 0 rfl he1 rfl) rfl rfl hl.1 rfl (lv_room (Nat.le_of_ble_eq_true rfl)) dL_law_506 hc0) (fun H locs hP hD hS => ?_)
  refine lv_aload_n hx1 hb dL_law_509 rfl (lv_at hl 2 rfl) ?_
  refine xq_i (wc := Wr) (wr := oU K o f :: Wc2) (w1 := Wr2) (wn := oU K o f :: (Wc2 ++ Wr2)) (pM _ _ _) (qM _ _ _) hP hD hS hA (va_runV (As := []) (rest := [.int v]) C0.1 (h2 H.size) (cwV 0 hts gL_law_X11_undo rfl rfl rfl (by decide +kernel) ⟨Nat.le_of_ble_eq_true rfl, Nat.le_of_ble_eq_true rfl⟩) (yq_V C0.2 hP hD hS (pM _ _ _) 10 0 rfl he2 rfl) rfl rfl hl.1 rfl (lv_room (Nat.le_of_ble_eq_true rfl)) dL_law_510 hc0) (fun H locs hP hD hS => ?_)
  refine lv_icmp_eq (tgt := 1512) hx1 hb dL_law_513 (by decide) (fun c_ => ?_) (fun c_ => absurd rfl c_)
  refine W.widen (k := cells + 1) (n := slots + 6) (by omega) (by omega) ?_
  exact HC Wc2 Wr2 f H locs ls hsim2 hP hD hS hl
set_option maxHeartbeats 4000000 in
set_option maxRecDepth 100000 in
theorem lc_10 {p : Program} {l : Launch} {e : Env} {s : State} {m : MethodId} {below : List Frame} {meth : Method} {c : Code} {Q : State → Prop} {b L : Nat} {xs : Nat → Int32} {D : va_G} {K : Nat → ClassId} (C : LC p s m c b L xs D K) {i cells slots : Nat} (hi : i + 6 ≤ L) (hcs : cells + 1 ≤ 601024 ∧ slots + 6 ≤ 7293034) {hx hm o : Nat} {f : Nat → Int64} {Wc Wr : va_W} (hsim : SIM K hx hm Wc Wr) {H : Heap} {locs : List Loc} {ls : Array Slot} (hP : va_P D vwCl (oU K o f :: (Wc ++ Wr)) H) (hD : va_D (fun q : Nat => s.heap.size ≤ q) (oU K o f :: (Wc ++ Wr))) (hS : va_S (fun q : Nat => s.heap.size ≤ q) s.heap H locs) (hl : lv_has ls 7 [(0, .ref b), (1, .ref hx), (2, .ref hm), (3, .ref o), (4, .int (nI i))])
    (HC : ∀ (Wc2 Wr2 : va_W) (f2 : Nat → Int64) (H : Heap) (locs : List Loc) (ls : Array Slot), SIM K hx hm Wc2 Wr2 → va_P D vwCl (oU K o f2 :: (Wc2 ++ Wr2)) H → va_D (fun q : Nat => s.heap.size ≤ q) (oU K o f2 :: (Wc2 ++ Wr2)) → va_S (fun q : Nat => s.heap.size ≤ q) s.heap H locs → lv_has ls 7 [(0, .ref b), (1, .ref hx), (2, .ref hm), (3, .ref o), (4, .int (nI i))] → W p l e room_1 s m #[Value.ref b] below meth c H locs (cells + 1) (slots + 6) Q (F0 m 1512 ls [])) :
    W p l e room_1 s m #[Value.ref b] below meth c H locs cells slots Q (F0 m 518 ls []) := by
  obtain ⟨C0, hTX, hX, hbl, hL⟩ := id C
  obtain ⟨⟨hx1, hb, hml, hown, hts⟩, hK, hA, -⟩ := id C0
  obtain ⟨⟨fs1, he1⟩, ⟨fs2, he2⟩⟩ := SIM_hd hsim
  have hbA : ¬ (fun q : Nat => s.heap.size ≤ q) b := Nat.not_le.mpr hbl
  have hc0 : cells + 0 ≤ room_1.cells ∧ slots + 0 ≤ room_1.slots := ⟨show cells + 0 ≤ 601024 by omega, show slots + 0 ≤ 7293034 by omega⟩
  obtain ⟨v, Wc2, Wr2, h1, h2, hsim2⟩ := sim_count l D hsim (xs (nI i + (1 : Int32)).toNatClampNeg)
  refine lv_aload_n hx1 hb dL_law_518 rfl (lv_at hl 1 rfl) ?_
  refine lv_aload_n hx1 hb dL_law_519 rfl (lv_at hl 0 rfl) ?_
  refine lv_iload hx1 hb dL_law_520 (lv_at hl 4 rfl) ?_
  refine lv_iconst (v := 1) hx1 hb dL_law_522 (by decide) ?_
  refine lv_iadd hx1 hb dL_law_523 ?_
  refine va_sld hx1 hb hX hbl hbA hS (li_ (j := 1) (by omega) hL) dL_law_524 ?_
  refine xq_i (wc := Wc) (wr := oU K o f :: Wr) (w1 := Wc2) (wn := oU K o f :: (Wc2 ++ Wr)) (pX _ _ _) (qX _ _ _) hP hD hS hA (va_runV (As := [.int (xs (nI i + (1 : Int32)).toNatClampNeg)]) (rest := []) C0.1 (h1 H.size) (cwV 1 hts gL_law_X10_count rfl rfl rfl (by decide +kernel) ⟨Nat.le_of_ble_eq_true rfl, Nat.le_of_ble_eq_true rfl⟩) (yq_V C0.2 hP hD hS (pX _ _ _) 9 0 rfl he1 rfl) rfl rfl hl.1 rfl (lv_room (Nat.le_of_ble_eq_true rfl)) dL_law_525 hc0) (fun H locs hP hD hS => ?_)
  refine lv_aload_n hx1 hb dL_law_528 rfl (lv_at hl 2 rfl) ?_
  refine lv_aload_n hx1 hb dL_law_529 rfl (lv_at hl 0 rfl) ?_
  refine lv_iload hx1 hb dL_law_530 (lv_at hl 4 rfl) ?_
  refine lv_iconst (v := 1) hx1 hb dL_law_532 (by decide) ?_
  refine lv_iadd hx1 hb dL_law_533 ?_
  refine va_sld hx1 hb hX hbl hbA hS (li_ (j := 1) (by omega) hL) dL_law_534 ?_
  refine xq_i (wc := Wr) (wr := oU K o f :: Wc2) (w1 := Wr2) (wn := oU K o f :: (Wc2 ++ Wr2)) (pM _ _ _) (qM _ _ _) hP hD hS hA (va_runV (As := [.int (xs (nI i + (1 : Int32)).toNatClampNeg)]) (rest := [.int v]) C0.1 (h2 H.size) (cwV 1 hts gL_law_X11_count rfl rfl rfl (by decide +kernel) ⟨Nat.le_of_ble_eq_true rfl, Nat.le_of_ble_eq_true rfl⟩) (yq_V C0.2 hP hD hS (pM _ _ _) 10 0 rfl he2 rfl) rfl rfl hl.1 rfl (lv_room (Nat.le_of_ble_eq_true rfl)) dL_law_535 hc0) (fun H locs hP hD hS => ?_)
  refine lv_icmp_eq (tgt := 1512) hx1 hb dL_law_538 (by decide) (fun c_ => ?_) (fun c_ => absurd rfl c_)
  refine W.widen (k := cells + 1) (n := slots + 6) (by omega) (by omega) ?_
  exact HC Wc2 Wr2 f H locs ls hsim2 hP hD hS hl
set_option maxHeartbeats 4000000 in
set_option maxRecDepth 100000 in
theorem lc_11 {p : Program} {l : Launch} {e : Env} {s : State} {m : MethodId} {below : List Frame} {meth : Method} {c : Code} {Q : State → Prop} {b L : Nat} {xs : Nat → Int32} {D : va_G} {K : Nat → ClassId} (hl0 : l.stackTraces = false) (C : LC p s m c b L xs D K) {i cells slots : Nat} (hi : i + 6 ≤ L) (hcs : cells + 1 ≤ 601024 ∧ slots + 6 ≤ 7293034) {hx hm o : Nat} {f : Nat → Int64} {Wc Wr : va_W} (hsim : SIM K hx hm Wc Wr) {H : Heap} {locs : List Loc} {ls : Array Slot} (hP : va_P D vwCl (oU K o f :: (Wc ++ Wr)) H) (hD : va_D (fun q : Nat => s.heap.size ≤ q) (oU K o f :: (Wc ++ Wr))) (hS : va_S (fun q : Nat => s.heap.size ≤ q) s.heap H locs) (hl : lv_has ls 7 [(0, .ref b), (1, .ref hx), (2, .ref hm), (3, .ref o), (4, .int (nI i))])
    (HC : ∀ (Wc2 Wr2 : va_W) (f2 : Nat → Int64) (H : Heap) (locs : List Loc) (ls : Array Slot), SIM K hx hm Wc2 Wr2 → va_P D vwCl (oU K o f2 :: (Wc2 ++ Wr2)) H → va_D (fun q : Nat => s.heap.size ≤ q) (oU K o f2 :: (Wc2 ++ Wr2)) → va_S (fun q : Nat => s.heap.size ≤ q) s.heap H locs → lv_has ls 7 [(0, .ref b), (1, .ref hx), (2, .ref hm), (3, .ref o), (4, .int (nI i))] → W p l e room_1 s m #[Value.ref b] below meth c H locs (cells + 1) (slots + 6) Q (F0 m 1512 ls [])) :
    W p l e room_1 s m #[Value.ref b] below meth c H locs cells slots Q (F0 m 543 ls []) := by
  obtain ⟨C0, hTX, hX, hbl, hL⟩ := id C
  obtain ⟨⟨hx1, hb, hml, hown, hts⟩, hK, hA, -⟩ := id C0
  obtain ⟨⟨fs1, he1⟩, ⟨fs2, he2⟩⟩ := SIM_hd hsim
  have hbA : ¬ (fun q : Nat => s.heap.size ≤ q) b := Nat.not_le.mpr hbl
  have hc0 : cells + 0 ≤ room_1.cells ∧ slots + 0 ≤ room_1.slots := ⟨show cells + 0 ≤ 601024 by omega, show slots + 0 ≤ 7293034 by omega⟩
  have hc1 : cells + 1 + 0 ≤ room_1.cells ∧ slots + 6 + 0 ≤ room_1.slots := ⟨show cells + 1 + 0 ≤ 601024 by omega, show slots + 6 + 0 ≤ 7293034 by omega⟩
  have hc9 : cells + 1 ≤ room_1.cells ∧ slots + 6 ≤ room_1.slots := hcs
  obtain ⟨kk, bb, f2, Wc2, Wr2, h1, h2, h3, hsim2, hf2⟩ := sim_L_gapOf l hl0 D hsim o f (xs (nI i + (1 : Int32)).toNatClampNeg) (xs (nI i + (2 : Int32)).toNatClampNeg)
  obtain ⟨-, ⟨fs3, he3⟩⟩ := SIM_hd hsim2
  refine lv_aload_n hx1 hb dL_law_543 rfl (lv_at hl 1 rfl) ?_
  refine lv_aload_n hx1 hb dL_law_544 rfl (lv_at hl 0 rfl) ?_
  refine lv_iload hx1 hb dL_law_545 (lv_at hl 4 rfl) ?_
  refine lv_iconst (v := 1) hx1 hb dL_law_547 (by decide) ?_
  refine lv_iadd hx1 hb dL_law_548 ?_
  refine va_sld hx1 hb hX hbl hbA hS (li_ (j := 1) (by omega) hL) dL_law_549 ?_
  refine lv_aload_n hx1 hb dL_law_550 rfl (lv_at hl 0 rfl) ?_
  refine lv_iload hx1 hb dL_law_551 (lv_at hl 4 rfl) ?_
  refine lv_iconst (v := 2) hx1 hb dL_law_553 (by decide) ?_
  refine lv_iadd hx1 hb dL_law_554 ?_
  refine va_sld hx1 hb hX hbl hbA hS (li_ (j := 2) (by omega) hL) dL_law_555 ?_
  refine lv_aload_n hx1 hb dL_law_556 rfl (lv_at hl 3 rfl) ?_
  refine xq_i (wc := oU K o f :: Wc) (wr := Wr) (w1 := oU K o f2 :: Wc2) (wn := oU K o f2 :: (Wc2 ++ Wr)) (pL _ _ _) (qL _ _ _) hP hD hS hA (vx_runSW (As := [.ref hx, .int (xs (nI i + (1 : Int32)).toNatClampNeg), .int (xs (nI i + (2 : Int32)).toNatClampNeg), .ref o]) (rest := []) C0.1 (h1 H.size) (vx_cwSW 4 hts gL_law_L_gapOf rfl rfl rfl (by decide +kernel) ⟨Nat.le_of_ble_eq_true rfl, Nat.le_of_ble_eq_true rfl⟩) (yq_SX hTX C0.2 hP hD hS (pL _ _ _)) rfl rfl hl.1 rfl (lv_room (Nat.le_of_ble_eq_true rfl)) dL_law_557 hc9) (fun H locs hP hD hS => ?_)
  refine lv_istore (lv' := [(5, .int kk), (0, .ref b), (1, .ref hx), (2, .ref hm), (3, .ref o), (4, .int (nI i))]) hx1 hb dL_law_560 hl (by decide) rfl (fun ls hl => ?_)
  refine lv_aload_n hx1 hb dL_law_562 rfl (lv_at hl 3 rfl) ?_
  refine lv_aload_n hx1 hb dL_law_563 rfl (lv_at hl 1 rfl) ?_
  refine lv_iload hx1 hb dL_law_564 (lv_at hl 5 rfl) ?_
  refine lv_iconst (v := 1) hx1 hb dL_law_566 (by decide) ?_
  refine lv_iadd hx1 hb dL_law_567 ?_
  refine va_sld hx1 hb hX hbl hbA hS (li_ (j := 1) (by omega) hL) dL_law_568 ?_
  refine lv_aload_n hx1 hb dL_law_569 rfl (lv_at hl 1 rfl) ?_
  refine lv_iload hx1 hb dL_law_570 (lv_at hl 5 rfl) ?_
  refine lv_iconst (v := 2) hx1 hb dL_law_572 (by decide) ?_
  refine lv_iadd hx1 hb dL_law_573 ?_
  refine va_sld hx1 hb hX hbl hbA hS (li_ (j := 2) (by omega) hL) dL_law_574 ?_
  refine xq_i (wc := Wr) (wr := oU K o f2 :: Wc2) (w1 := Wr2) (wn := oU K o f2 :: (Wc2 ++ Wr2)) (pM _ _ _) (qM _ _ _) hP hD hS hA (va_runV (As := [.int (xs (nI i + (1 : Int32)).toNatClampNeg), .int (xs (nI i + (2 : Int32)).toNatClampNeg)]) (rest := []) C0.1 (h2 H.size) (cwV 2 hts gL_law_X11_gapOf rfl rfl rfl (by decide +kernel) ⟨Nat.le_of_ble_eq_true rfl, Nat.le_of_ble_eq_true rfl⟩) (yq_V C0.2 hP hD hS (pM _ _ _) 10 0 rfl he2 rfl) rfl rfl hl.1 rfl (lv_room (Nat.le_of_ble_eq_true rfl)) dL_law_575 hc1) (fun H locs hP hD hS => ?_)
  refine lv_istore (lv' := [(6, .int bb), (5, .int kk), (0, .ref b), (1, .ref hx), (2, .ref hm), (3, .ref o), (4, .int (nI i))]) hx1 hb dL_law_578 hl (by decide) rfl (fun ls hl => ?_)
  refine lv_aload_n hx1 hb dL_law_580 rfl (lv_at hl 4 rfl) ?_
  refine xq_i (wc := Wr2) (wr := oU K o f2 :: Wc2) (w1 := Wr2) (wn := oU K o f2 :: (Wc2 ++ Wr2)) (pM _ _ _) (qM _ _ _) hP hD hS hA (va_runV (As := []) (rest := []) C0.1 (h3 H.size) (cwV 0 hts gL_law_X11_thrown rfl rfl rfl (by decide +kernel) ⟨Nat.le_of_ble_eq_true rfl, Nat.le_of_ble_eq_true rfl⟩) (yq_V C0.2 hP hD hS (pM _ _ _) 10 0 rfl he3 rfl) rfl rfl hl.1 rfl (lv_room (Nat.le_of_ble_eq_true rfl)) dL_law_581 hc1) (fun H locs hP hD hS => ?_)
  refine lv_iload hx1 hb dL_law_584 (lv_at hl 1 rfl) ?_
  refine lv_icmp_eq (tgt := 591) hx1 hb dL_law_586 (by decide) (fun c_ => ?_) (fun c_ => absurd rfl c_)
  refine lv_iload hx1 hb dL_law_591 (lv_at hl 1 rfl) ?_
  refine lv_if_ne (tgt := 608) hx1 hb dL_law_593 (by decide) (fun c_ => ?_) (fun c_ => ?_)
  · refine lv_goto (tgt := 1512) hx1 hb dL_law_608 (by decide) ?_
    refine W.widen (k := cells + 1) (n := slots + 6) (by omega) (by omega) ?_
    exact HC Wc2 Wr2 f2 H locs ls hsim2 hP hD hS (lv_sub hl [2, 3, 4, 5, 6] rfl)
  · refine lv_aload_n hx1 hb dL_law_596 rfl (lv_at hl 5 rfl) ?_
    refine lv_iconst (v := 0) hx1 hb dL_law_597 (by decide) ?_
    refine xl_l (f := f2) hx1 hb hK hP 0 1 rfl rfl (k := 0) rfl (in_v (by decide)) dL_law_598 ?_
    refine lv_iload hx1 hb dL_law_599 (lv_at hl 0 rfl) ?_
    refine lv_i2l hx1 hb dL_law_601 rfl ?_
    refine W.lcmp hx1 hb dL_law_602 ?_
    refine lv_if_eq (tgt := 608) hx1 hb dL_law_603 (by decide) (fun c_2 => ?_) (fun c_2 => absurd (by rw [hf2 c_]; exact lg_cmp_rf _) c_2)
    refine lv_goto (tgt := 1512) hx1 hb dL_law_608 (by decide) ?_
    refine W.widen (k := cells + 1) (n := slots + 6) (by omega) (by omega) ?_
    exact HC Wc2 Wr2 f2 H locs ls hsim2 hP hD hS (lv_sub hl [2, 3, 4, 5, 6] rfl)
/-! ===== END ===== -/
