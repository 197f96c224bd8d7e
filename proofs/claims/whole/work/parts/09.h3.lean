/-! ===== BEGIN the cases of the law ===== -/
set_option maxHeartbeats 4000000 in
set_option maxRecDepth 100000 in
theorem lc_23 {p : Program} {l : Launch} {e : Env} {s : State} {m : MethodId} {below : List Frame} {meth : Method} {c : Code} {Q : State → Prop} {b L : Nat} {xs : Nat → Int32} {D : va_G} {K : Nat → ClassId} (C : LC p s m c b L xs D K) {i cells slots : Nat} (hi : i + 6 ≤ L) (hcs : cells + 1 ≤ 601024 ∧ slots + 6 ≤ 7293034) {hx hm o : Nat} {f : Nat → Int64} {Wc Wr : va_W} (hsim : SIM K hx hm Wc Wr) {H : Heap} {locs : List Loc} {ls : Array Slot} (hP : va_P D vwCl (oU K o f :: (Wc ++ Wr)) H) (hD : va_D (fun q : Nat => s.heap.size ≤ q) (oU K o f :: (Wc ++ Wr))) (hS : va_S (fun q : Nat => s.heap.size ≤ q) s.heap H locs) (hl : lv_has ls 7 [(0, .ref b), (1, .ref hx), (2, .ref hm), (3, .ref o), (4, .int (nI i))])
    (HC : ∀ (Wc2 Wr2 : va_W) (f2 : Nat → Int64) (H : Heap) (locs : List Loc) (ls : Array Slot), SIM K hx hm Wc2 Wr2 → va_P D vwCl (oU K o f2 :: (Wc2 ++ Wr2)) H → va_D (fun q : Nat => s.heap.size ≤ q) (oU K o f2 :: (Wc2 ++ Wr2)) → va_S (fun q : Nat => s.heap.size ≤ q) s.heap H locs → lv_has ls 7 [(0, .ref b), (1, .ref hx), (2, .ref hm), (3, .ref o), (4, .int (nI i))] → W p l e room_1 s m #[Value.ref b] below meth c H locs (cells + 1) (slots + 6) Q (F0 m 1512 ls [])) :
    W p l e room_1 s m #[Value.ref b] below meth c H locs cells slots Q (F0 m 1057 ls []) := by
  obtain ⟨C0, hTX, hX, hbl, hL⟩ := id C
  obtain ⟨⟨hx1, hb, hml, hown, hts⟩, hK, hA, -⟩ := id C0
  obtain ⟨⟨fs1, he1⟩, ⟨fs2, he2⟩⟩ := SIM_hd hsim
  have hbA : ¬ (fun q : Nat => s.heap.size ≤ q) b := Nat.not_le.mpr hbl
  have hc0 : cells + 0 ≤ room_1.cells ∧ slots + 0 ≤ room_1.slots := ⟨show cells + 0 ≤ 601024 by omega, show slots + 0 ≤ 7293034 by omega⟩
  obtain ⟨v, Wc2, Wr2, h1, h2, hsim2⟩ := sim_picture l D hsim (xs (nI i + (1 : Int32)).toNatClampNeg) (bz (xs (nI i + (2 : Int32)).toNatClampNeg))
  refine lv_aload_n hx1 hb dL_law_1057 rfl (lv_at hl 1 rfl) ?_
  refine lv_aload_n hx1 hb dL_law_1058 rfl (lv_at hl 0 rfl) ?_
  refine lv_iload hx1 hb dL_law_1059 (lv_at hl 4 rfl) ?_
  refine lv_iconst (v := 1) hx1 hb dL_law_1061 (by decide) ?_
  refine lv_iadd hx1 hb dL_law_1062 ?_
  refine va_sld hx1 hb hX hbl hbA hS (li_ (j := 1) (by omega) hL) dL_law_1063 ?_
  refine lv_aload_n hx1 hb dL_law_1064 rfl (lv_at hl 0 rfl) ?_
  refine lv_iload hx1 hb dL_law_1065 (lv_at hl 4 rfl) ?_
  refine lv_iconst (v := 2) hx1 hb dL_law_1067 (by decide) ?_
  refine lv_iadd hx1 hb dL_law_1068 ?_
  refine va_sld hx1 hb hX hbl hbA hS (li_ (j := 2) (by omega) hL) dL_law_1069 ?_
  refine lw_b hx1 hb dL_law_1070 dL_law_1073 dL_law_1074 dL_law_1077 ?_
  refine xq_i (wc := Wc) (wr := oU K o f :: Wr) (w1 := Wc2) (wn := oU K o f :: (Wc2 ++ Wr)) (pX _ _ _) (qX _ _ _) hP hD hS hA (va_runV (As := [.int (xs (nI i + (1 : Int32)).toNatClampNeg), .int (bz (xs (nI i + (2 : Int32)).toNatClampNeg))]) (rest := []) C0.1 (h1 H.size) (cwV 2 hts gL_law_X10_picture rfl rfl rfl (by decide +kernel) ⟨Nat.le_of_ble_eq_true rfl, Nat.le_of_ble_eq_true rfl⟩) (yq_V C0.2 hP hD hS (pX _ _ _) 9 0 rfl he1 rfl) rfl rfl hl.1 rfl (lv_room (Nat.le_of_ble_eq_true rfl)) dL_law_1078 hc0) (fun H locs hP hD hS => ?_)
  refine lv_aload_n hx1 hb dL_law_1081 rfl (lv_at hl 2 rfl) ?_
  refine lv_aload_n hx1 hb dL_law_1082 rfl (lv_at hl 0 rfl) ?_
  refine lv_iload hx1 hb dL_law_1083 (lv_at hl 4 rfl) ?_
  refine lv_iconst (v := 1) hx1 hb dL_law_1085 (by decide) ?_
  refine lv_iadd hx1 hb dL_law_1086 ?_
  refine va_sld hx1 hb hX hbl hbA hS (li_ (j := 1) (by omega) hL) dL_law_1087 ?_
  refine lv_aload_n hx1 hb dL_law_1088 rfl (lv_at hl 0 rfl) ?_
  refine lv_iload hx1 hb dL_law_1089 (lv_at hl 4 rfl) ?_
  refine lv_iconst (v := 2) hx1 hb dL_law_1091 (by decide) ?_
  refine lv_iadd hx1 hb dL_law_1092 ?_
  refine va_sld hx1 hb hX hbl hbA hS (li_ (j := 2) (by omega) hL) dL_law_1093 ?_
  refine lw_b hx1 hb dL_law_1094 dL_law_1097 dL_law_1098 dL_law_1101 ?_
  refine xq_i (wc := Wr) (wr := oU K o f :: Wc2) (w1 := Wr2) (wn := oU K o f :: (Wc2 ++ Wr2)) (pM _ _ _) (qM _ _ _) hP hD hS hA (va_runV (As := [.int (xs (nI i + (1 : Int32)).toNatClampNeg), .int (bz (xs (nI i + (2 : Int32)).toNatClampNeg))]) (rest := [.int v]) C0.1 (h2 H.size) (cwV 2 hts gL_law_X11_picture rfl rfl rfl (by decide +kernel) ⟨Nat.le_of_ble_eq_true rfl, Nat.le_of_ble_eq_true rfl⟩) (yq_V C0.2 hP hD hS (pM _ _ _) 10 0 rfl he2 rfl) rfl rfl hl.1 rfl (lv_room (Nat.le_of_ble_eq_true rfl)) dL_law_1102 hc0) (fun H locs hP hD hS => ?_)
  refine lv_icmp_eq (tgt := 1512) hx1 hb dL_law_1105 (by decide) (fun c_ => ?_) (fun c_ => absurd rfl c_)
  refine W.widen (k := cells + 1) (n := slots + 6) (by omega) (by omega) ?_
  exact HC Wc2 Wr2 f H locs ls hsim2 hP hD hS hl
set_option maxHeartbeats 4000000 in
set_option maxRecDepth 100000 in
theorem lc_24 {p : Program} {l : Launch} {e : Env} {s : State} {m : MethodId} {below : List Frame} {meth : Method} {c : Code} {Q : State → Prop} {b L : Nat} {xs : Nat → Int32} {D : va_G} {K : Nat → ClassId} (C : LC p s m c b L xs D K) {i cells slots : Nat} (hi : i + 6 ≤ L) (hcs : cells + 1 ≤ 601024 ∧ slots + 6 ≤ 7293034) {hx hm o : Nat} {f : Nat → Int64} {Wc Wr : va_W} (hsim : SIM K hx hm Wc Wr) {H : Heap} {locs : List Loc} {ls : Array Slot} (hP : va_P D vwCl (oU K o f :: (Wc ++ Wr)) H) (hD : va_D (fun q : Nat => s.heap.size ≤ q) (oU K o f :: (Wc ++ Wr))) (hS : va_S (fun q : Nat => s.heap.size ≤ q) s.heap H locs) (hl : lv_has ls 7 [(0, .ref b), (1, .ref hx), (2, .ref hm), (3, .ref o), (4, .int (nI i))])
    (HC : ∀ (Wc2 Wr2 : va_W) (f2 : Nat → Int64) (H : Heap) (locs : List Loc) (ls : Array Slot), SIM K hx hm Wc2 Wr2 → va_P D vwCl (oU K o f2 :: (Wc2 ++ Wr2)) H → va_D (fun q : Nat => s.heap.size ≤ q) (oU K o f2 :: (Wc2 ++ Wr2)) → va_S (fun q : Nat => s.heap.size ≤ q) s.heap H locs → lv_has ls 7 [(0, .ref b), (1, .ref hx), (2, .ref hm), (3, .ref o), (4, .int (nI i))] → W p l e room_1 s m #[Value.ref b] below meth c H locs (cells + 1) (slots + 6) Q (F0 m 1512 ls [])) :
    W p l e room_1 s m #[Value.ref b] below meth c H locs cells slots Q (F0 m 1110 ls []) := by
  obtain ⟨C0, hTX, hX, hbl, hL⟩ := id C
  obtain ⟨⟨hx1, hb, hml, hown, hts⟩, hK, hA, -⟩ := id C0
  obtain ⟨⟨fs1, he1⟩, ⟨fs2, he2⟩⟩ := SIM_hd hsim
  have hbA : ¬ (fun q : Nat => s.heap.size ≤ q) b := Nat.not_le.mpr hbl
  have hc0 : cells + 0 ≤ room_1.cells ∧ slots + 0 ≤ room_1.slots := ⟨show cells + 0 ≤ 601024 by omega, show slots + 0 ≤ 7293034 by omega⟩
  obtain ⟨v, Wc2, Wr2, h1, h2, hsim2⟩ := sim_pairs l D hsim (xs (nI i + (1 : Int32)).toNatClampNeg)
  refine lv_aload_n hx1 hb dL_law_1110 rfl (lv_at hl 1 rfl) ?_
  refine lv_aload_n hx1 hb dL_law_1111 rfl (lv_at hl 0 rfl) ?_
  refine lv_iload hx1 hb dL_law_1112 (lv_at hl 4 rfl) ?_
  refine lv_iconst (v := 1) hx1 hb dL_law_1114 (by decide) ?_
  refine lv_iadd hx1 hb dL_law_1115 ?_
  refine va_sld hx1 hb hX hbl hbA hS (li_ (j := 1) (by omega) hL) dL_law_1116 ?_
  refine xq_i (wc := Wc) (wr := oU K o f :: Wr) (w1 := Wc2) (wn := oU K o f :: (Wc2 ++ Wr)) (pX _ _ _) (qX _ _ _) hP hD hS hA (va_runV (As := [.int (xs (nI i + (1 : Int32)).toNatClampNeg)]) (rest := []) C0.1 (h1 H.size) (cwV 1 hts gL_law_X10_pairs rfl rfl rfl (by decide +kernel) ⟨Nat.le_of_ble_eq_true rfl, Nat.le_of_ble_eq_true rfl⟩) (yq_V C0.2 hP hD hS (pX _ _ _) 9 0 rfl he1 rfl) rfl rfl hl.1 rfl (lv_room (Nat.le_of_ble_eq_true rfl)) dL_law_1117 hc0) (fun H locs hP hD hS => ?_)
  refine lv_aload_n hx1 hb dL_law_1120 rfl (lv_at hl 2 rfl) ?_
  refine lv_aload_n hx1 hb dL_law_1121 rfl (lv_at hl 0 rfl) ?_
  refine lv_iload hx1 hb dL_law_1122 (lv_at hl 4 rfl) ?_
  refine lv_iconst (v := 1) hx1 hb dL_law_1124 (by decide) ?_
  refine lv_iadd hx1 hb dL_law_1125 ?_
  refine va_sld hx1 hb hX hbl hbA hS (li_ (j := 1) (by omega) hL) dL_law_1126 ?_
  refine xq_i (wc := Wr) (wr := oU K o f :: Wc2) (w1 := Wr2) (wn := oU K o f :: (Wc2 ++ Wr2)) (pM _ _ _) (qM _ _ _) hP hD hS hA (va_runV (As := [.int (xs (nI i + (1 : Int32)).toNatClampNeg)]) (rest := [.int v]) C0.1 (h2 H.size) (cwV 1 hts gL_law_X11_pairs rfl rfl rfl (by decide +kernel) ⟨Nat.le_of_ble_eq_true rfl, Nat.le_of_ble_eq_true rfl⟩) (yq_V C0.2 hP hD hS (pM _ _ _) 10 0 rfl he2 rfl) rfl rfl hl.1 rfl (lv_room (Nat.le_of_ble_eq_true rfl)) dL_law_1127 hc0) (fun H locs hP hD hS => ?_)
  refine lv_icmp_eq (tgt := 1512) hx1 hb dL_law_1130 (by decide) (fun c_ => ?_) (fun c_ => absurd rfl c_)
  refine W.widen (k := cells + 1) (n := slots + 6) (by omega) (by omega) ?_
  exact HC Wc2 Wr2 f H locs ls hsim2 hP hD hS hl
set_option maxHeartbeats 4000000 in
set_option maxRecDepth 100000 in
theorem lc_25 {p : Program} {l : Launch} {e : Env} {s : State} {m : MethodId} {below : List Frame} {meth : Method} {c : Code} {Q : State → Prop} {b L : Nat} {xs : Nat → Int32} {D : va_G} {K : Nat → ClassId} (C : LC p s m c b L xs D K) {i cells slots : Nat} (hi : i + 6 ≤ L) (hcs : cells + 1 ≤ 601024 ∧ slots + 6 ≤ 7293034) {hx hm o : Nat} {f : Nat → Int64} {Wc Wr : va_W} (hsim : SIM K hx hm Wc Wr) {H : Heap} {locs : List Loc} {ls : Array Slot} (hP : va_P D vwCl (oU K o f :: (Wc ++ Wr)) H) (hD : va_D (fun q : Nat => s.heap.size ≤ q) (oU K o f :: (Wc ++ Wr))) (hS : va_S (fun q : Nat => s.heap.size ≤ q) s.heap H locs) (hl : lv_has ls 7 [(0, .ref b), (1, .ref hx), (2, .ref hm), (3, .ref o), (4, .int (nI i))])
    (HC : ∀ (Wc2 Wr2 : va_W) (f2 : Nat → Int64) (H : Heap) (locs : List Loc) (ls : Array Slot), SIM K hx hm Wc2 Wr2 → va_P D vwCl (oU K o f2 :: (Wc2 ++ Wr2)) H → va_D (fun q : Nat => s.heap.size ≤ q) (oU K o f2 :: (Wc2 ++ Wr2)) → va_S (fun q : Nat => s.heap.size ≤ q) s.heap H locs → lv_has ls 7 [(0, .ref b), (1, .ref hx), (2, .ref hm), (3, .ref o), (4, .int (nI i))] → W p l e room_1 s m #[Value.ref b] below meth c H locs (cells + 1) (slots + 6) Q (F0 m 1512 ls [])) :
    W p l e room_1 s m #[Value.ref b] below meth c H locs cells slots Q (F0 m 1135 ls []) := by
  obtain ⟨C0, hTX, hX, hbl, hL⟩ := id C
  obtain ⟨⟨hx1, hb, hml, hown, hts⟩, hK, hA, -⟩ := id C0
  obtain ⟨⟨fs1, he1⟩, ⟨fs2, he2⟩⟩ := SIM_hd hsim
  have hbA : ¬ (fun q : Nat => s.heap.size ≤ q) b := Nat.not_le.mpr hbl
  have hc0 : cells + 0 ≤ room_1.cells ∧ slots + 0 ≤ room_1.slots := ⟨show cells + 0 ≤ 601024 by omega, show slots + 0 ≤ 7293034 by omega⟩
  obtain ⟨v, Wc2, Wr2, h1, h2, hsim2⟩ := sim_track l D hsim (xs (nI i + (1 : Int32)).toNatClampNeg) (xs (nI i + (2 : Int32)).toNatClampNeg)
  refine lv_aload_n hx1 hb dL_law_1135 rfl (lv_at hl 1 rfl) ?_
  refine lv_aload_n hx1 hb dL_law_1136 rfl (lv_at hl 0 rfl) ?_
  refine lv_iload hx1 hb dL_law_1137 (lv_at hl 4 rfl) ?_
  refine lv_iconst (v := 1) hx1 hb dL_law_1139 (by decide) ?_
  refine lv_iadd hx1 hb dL_law_1140 ?_
  refine va_sld hx1 hb hX hbl hbA hS (li_ (j := 1) (by omega) hL) dL_law_1141 ?_
  refine lv_aload_n hx1 hb dL_law_1142 rfl (lv_at hl 0 rfl) ?_
  refine lv_iload hx1 hb dL_law_1143 (lv_at hl 4 rfl) ?_
  refine lv_iconst (v := 2) hx1 hb dL_law_1145 (by decide) ?_
  refine lv_iadd hx1 hb dL_law_1146 ?_
  refine va_sld hx1 hb hX hbl hbA hS (li_ (j := 2) (by omega) hL) dL_law_1147 ?_
  refine xq_i (wc := Wc) (wr := oU K o f :: Wr) (w1 := Wc2) (wn := oU K o f :: (Wc2 ++ Wr)) (pX _ _ _) (qX _ _ _) hP hD hS hA (va_runV (As := [.int (xs (nI i + (1 : Int32)).toNatClampNeg), .int (xs (nI i + (2 : Int32)).toNatClampNeg)]) (rest := []) C0.1 (h1 H.size) (cwV 2 hts gL_law_X10_track rfl rfl rfl (by decide +kernel) ⟨Nat.le_of_ble_eq_true rfl, Nat.le_of_ble_eq_true rfl⟩) (yq_V C0.2 hP hD hS (pX _ _ _) 9 0 rfl he1 rfl) rfl rfl hl.1 rfl (lv_room (Nat.le_of_ble_eq_true rfl)) dL_law_1148 hc0) (fun H locs hP hD hS => ?_)
  refine lv_aload_n hx1 hb dL_law_1151 rfl (lv_at hl 2 rfl) ?_
  refine lv_aload_n hx1 hb dL_law_1152 rfl (lv_at hl 0 rfl) ?_
  refine lv_iload hx1 hb dL_law_1153 (lv_at hl 4 rfl) ?_
  refine lv_iconst (v := 1) hx1 hb dL_law_1155 (by decide) ?_
  refine lv_iadd hx1 hb dL_law_1156 ?_
  refine va_sld hx1 hb hX hbl hbA hS (li_ (j := 1) (by omega) hL) dL_law_1157 ?_
  refine lv_aload_n hx1 hb dL_law_1158 rfl (lv_at hl 0 rfl) ?_
  refine lv_iload hx1 hb dL_law_1159 (lv_at hl 4 rfl) ?_
  refine lv_iconst (v := 2) hx1 hb dL_law_1161 (by decide) ?_
  refine lv_iadd hx1 hb dL_law_1162 ?_
  refine va_sld hx1 hb hX hbl hbA hS (li_ (j := 2) (by omega) hL) dL_law_1163 ?_
  refine xq_i (wc := Wr) (wr := oU K o f :: Wc2) (w1 := Wr2) (wn := oU K o f :: (Wc2 ++ Wr2)) (pM _ _ _) (qM _ _ _) hP hD hS hA (va_runV (As := [.int (xs (nI i + (1 : Int32)).toNatClampNeg), .int (xs (nI i + (2 : Int32)).toNatClampNeg)]) (rest := [.int v]) C0.1 (h2 H.size) (cwV 2 hts gL_law_X11_track rfl rfl rfl (by decide +kernel) ⟨Nat.le_of_ble_eq_true rfl, Nat.le_of_ble_eq_true rfl⟩) (yq_V C0.2 hP hD hS (pM _ _ _) 10 0 rfl he2 rfl) rfl rfl hl.1 rfl (lv_room (Nat.le_of_ble_eq_true rfl)) dL_law_1164 hc0) (fun H locs hP hD hS => ?_)
  refine lv_icmp_eq (tgt := 1512) hx1 hb dL_law_1167 (by decide) (fun c_ => ?_) (fun c_ => absurd rfl c_)
  refine W.widen (k := cells + 1) (n := slots + 6) (by omega) (by omega) ?_
  exact HC Wc2 Wr2 f H locs ls hsim2 hP hD hS hl
set_option maxHeartbeats 4000000 in
set_option maxRecDepth 100000 in
theorem lc_26 {p : Program} {l : Launch} {e : Env} {s : State} {m : MethodId} {below : List Frame} {meth : Method} {c : Code} {Q : State → Prop} {b L : Nat} {xs : Nat → Int32} {D : va_G} {K : Nat → ClassId} (C : LC p s m c b L xs D K) {i cells slots : Nat} (hi : i + 6 ≤ L) (hcs : cells + 1 ≤ 601024 ∧ slots + 6 ≤ 7293034) {hx hm o : Nat} {f : Nat → Int64} {Wc Wr : va_W} (hsim : SIM K hx hm Wc Wr) {H : Heap} {locs : List Loc} {ls : Array Slot} (hP : va_P D vwCl (oU K o f :: (Wc ++ Wr)) H) (hD : va_D (fun q : Nat => s.heap.size ≤ q) (oU K o f :: (Wc ++ Wr))) (hS : va_S (fun q : Nat => s.heap.size ≤ q) s.heap H locs) (hl : lv_has ls 7 [(0, .ref b), (1, .ref hx), (2, .ref hm), (3, .ref o), (4, .int (nI i))])
    (HC : ∀ (Wc2 Wr2 : va_W) (f2 : Nat → Int64) (H : Heap) (locs : List Loc) (ls : Array Slot), SIM K hx hm Wc2 Wr2 → va_P D vwCl (oU K o f2 :: (Wc2 ++ Wr2)) H → va_D (fun q : Nat => s.heap.size ≤ q) (oU K o f2 :: (Wc2 ++ Wr2)) → va_S (fun q : Nat => s.heap.size ≤ q) s.heap H locs → lv_has ls 7 [(0, .ref b), (1, .ref hx), (2, .ref hm), (3, .ref o), (4, .int (nI i))] → W p l e room_1 s m #[Value.ref b] below meth c H locs (cells + 1) (slots + 6) Q (F0 m 1512 ls [])) :
    W p l e room_1 s m #[Value.ref b] below meth c H locs cells slots Q (F0 m 1172 ls []) := by
  obtain ⟨C0, hTX, hX, hbl, hL⟩ := id C
  obtain ⟨⟨hx1, hb, hml, hown, hts⟩, hK, hA, -⟩ := id C0
  obtain ⟨⟨fs1, he1⟩, ⟨fs2, he2⟩⟩ := SIM_hd hsim
  have hbA : ¬ (fun q : Nat => s.heap.size ≤ q) b := Nat.not_le.mpr hbl
  have hc0 : cells + 0 ≤ room_1.cells ∧ slots + 0 ≤ room_1.slots := ⟨show cells + 0 ≤ 601024 by omega, show slots + 0 ≤ 7293034 by omega⟩
  obtain ⟨v, Wc2, Wr2, h1, h2, hsim2⟩ := sim_order l D hsim (xs (nI i + (1 : Int32)).toNatClampNeg) (xs (nI i + (2 : Int32)).toNatClampNeg)
  refine lv_aload_n hx1 hb dL_law_1172 rfl (lv_at hl 1 rfl) ?_
  refine lv_aload_n hx1 hb dL_law_1173 rfl (lv_at hl 0 rfl) ?_
  refine lv_iload hx1 hb dL_law_1174 (lv_at hl 4 rfl) ?_
  refine lv_iconst (v := 1) hx1 hb dL_law_1176 (by decide) ?_
  refine lv_iadd hx1 hb dL_law_1177 ?_
  refine va_sld hx1 hb hX hbl hbA hS (li_ (j := 1) (by omega) hL) dL_law_1178 ?_
  refine lv_aload_n hx1 hb dL_law_1179 rfl (lv_at hl 0 rfl) ?_
  refine lv_iload hx1 hb dL_law_1180 (lv_at hl 4 rfl) ?_
  refine lv_iconst (v := 2) hx1 hb dL_law_1182 (by decide) ?_
  refine lv_iadd hx1 hb dL_law_1183 ?_
  refine va_sld hx1 hb hX hbl hbA hS (li_ (j := 2) (by omega) hL) dL_law_1184 ?_
  refine xq_i (wc := Wc) (wr := oU K o f :: Wr) (w1 := Wc2) (wn := oU K o f :: (Wc2 ++ Wr)) (pX _ _ _) (qX _ _ _) hP hD hS hA (va_runV (As := [.int (xs (nI i + (1 : Int32)).toNatClampNeg), .int (xs (nI i + (2 : Int32)).toNatClampNeg)]) (rest := []) C0.1 (h1 H.size) (cwV 2 hts gL_law_X10_order rfl rfl rfl (by decide +kernel) ⟨Nat.le_of_ble_eq_true rfl, Nat.le_of_ble_eq_true rfl⟩) (yq_V C0.2 hP hD hS (pX _ _ _) 9 0 rfl he1 rfl) rfl rfl hl.1 rfl (lv_room (Nat.le_of_ble_eq_true rfl)) dL_law_1185 hc0) (fun H locs hP hD hS => ?_)
  refine lv_aload_n hx1 hb dL_law_1188 rfl (lv_at hl 2 rfl) ?_
  refine lv_aload_n hx1 hb dL_law_1189 rfl (lv_at hl 0 rfl) ?_
  refine lv_iload hx1 hb dL_law_1190 (lv_at hl 4 rfl) ?_
  refine lv_iconst (v := 1) hx1 hb dL_law_1192 (by decide) ?_
  refine lv_iadd hx1 hb dL_law_1193 ?_
  refine va_sld hx1 hb hX hbl hbA hS (li_ (j := 1) (by omega) hL) dL_law_1194 ?_
  refine lv_aload_n hx1 hb dL_law_1195 rfl (lv_at hl 0 rfl) ?_
  refine lv_iload hx1 hb dL_law_1196 (lv_at hl 4 rfl) ?_
  refine lv_iconst (v := 2) hx1 hb dL_law_1198 (by decide) ?_
  refine lv_iadd hx1 hb dL_law_1199 ?_
  refine va_sld hx1 hb hX hbl hbA hS (li_ (j := 2) (by omega) hL) dL_law_1200 ?_
  refine xq_i (wc := Wr) (wr := oU K o f :: Wc2) (w1 := Wr2) (wn := oU K o f :: (Wc2 ++ Wr2)) (pM _ _ _) (qM _ _ _) hP hD hS hA (va_runV (As := [.int (xs (nI i + (1 : Int32)).toNatClampNeg), .int (xs (nI i + (2 : Int32)).toNatClampNeg)]) (rest := [.int v]) C0.1 (h2 H.size) (cwV 2 hts gL_law_X11_order rfl rfl rfl (by decide +kernel) ⟨Nat.le_of_ble_eq_true rfl, Nat.le_of_ble_eq_true rfl⟩) (yq_V C0.2 hP hD hS (pM _ _ _) 10 0 rfl he2 rfl) rfl rfl hl.1 rfl (lv_room (Nat.le_of_ble_eq_true rfl)) dL_law_1201 hc0) (fun H locs hP hD hS => ?_)
  refine lv_icmp_eq (tgt := 1512) hx1 hb dL_law_1204 (by decide) (fun c_ => ?_) (fun c_ => absurd rfl c_)
  refine W.widen (k := cells + 1) (n := slots + 6) (by omega) (by omega) ?_
  exact HC Wc2 Wr2 f H locs ls hsim2 hP hD hS hl
set_option maxHeartbeats 4000000 in
set_option maxRecDepth 100000 in
theorem lc_27 {p : Program} {l : Launch} {e : Env} {s : State} {m : MethodId} {below : List Frame} {meth : Method} {c : Code} {Q : State → Prop} {b L : Nat} {xs : Nat → Int32} {D : va_G} {K : Nat → ClassId} (C : LC p s m c b L xs D K) {i cells slots : Nat} (hi : i + 6 ≤ L) (hcs : cells + 1 ≤ 601024 ∧ slots + 6 ≤ 7293034) {hx hm o : Nat} {f : Nat → Int64} {Wc Wr : va_W} (hsim : SIM K hx hm Wc Wr) {H : Heap} {locs : List Loc} {ls : Array Slot} (hP : va_P D vwCl (oU K o f :: (Wc ++ Wr)) H) (hD : va_D (fun q : Nat => s.heap.size ≤ q) (oU K o f :: (Wc ++ Wr))) (hS : va_S (fun q : Nat => s.heap.size ≤ q) s.heap H locs) (hl : lv_has ls 7 [(0, .ref b), (1, .ref hx), (2, .ref hm), (3, .ref o), (4, .int (nI i))])
    (HC : ∀ (Wc2 Wr2 : va_W) (f2 : Nat → Int64) (H : Heap) (locs : List Loc) (ls : Array Slot), SIM K hx hm Wc2 Wr2 → va_P D vwCl (oU K o f2 :: (Wc2 ++ Wr2)) H → va_D (fun q : Nat => s.heap.size ≤ q) (oU K o f2 :: (Wc2 ++ Wr2)) → va_S (fun q : Nat => s.heap.size ≤ q) s.heap H locs → lv_has ls 7 [(0, .ref b), (1, .ref hx), (2, .ref hm), (3, .ref o), (4, .int (nI i))] → W p l e room_1 s m #[Value.ref b] below meth c H locs (cells + 1) (slots + 6) Q (F0 m 1512 ls [])) :
    W p l e room_1 s m #[Value.ref b] below meth c H locs cells slots Q (F0 m 1209 ls []) := by
  obtain ⟨C0, hTX, hX, hbl, hL⟩ := id C
  obtain ⟨⟨hx1, hb, hml, hown, hts⟩, hK, hA, -⟩ := id C0
  obtain ⟨⟨fs1, he1⟩, ⟨fs2, he2⟩⟩ := SIM_hd hsim
  have hbA : ¬ (fun q : Nat => s.heap.size ≤ q) b := Nat.not_le.mpr hbl
  have hc0 : cells + 0 ≤ room_1.cells ∧ slots + 0 ≤ room_1.slots := ⟨show cells + 0 ≤ 601024 by omega, show slots + 0 ≤ 7293034 by omega⟩
  obtain ⟨v, Wc2, Wr2, h1, h2, hsim2⟩ := sim_choose l D hsim (xs (nI i + (1 : Int32)).toNatClampNeg) (xs (nI i + (2 : Int32)).toNatClampNeg) (xs (nI i + (3 : Int32)).toNatClampNeg) (xs (nI i + (4 : Int32)).toNatClampNeg)
  refine lv_aload_n hx1 hb dL_law_1209 rfl (lv_at hl 1 rfl) ?_
  refine lv_aload_n hx1 hb dL_law_1210 rfl (lv_at hl 0 rfl) ?_
  refine lv_iload hx1 hb dL_law_1211 (lv_at hl 4 rfl) ?_
  refine lv_iconst (v := 1) hx1 hb dL_law_1213 (by decide) ?_
  refine lv_iadd hx1 hb dL_law_1214 ?_
  refine va_sld hx1 hb hX hbl hbA hS (li_ (j := 1) (by omega) hL) dL_law_1215 ?_
  refine lv_aload_n hx1 hb dL_law_1216 rfl (lv_at hl 0 rfl) ?_
  refine lv_iload hx1 hb dL_law_1217 (lv_at hl 4 rfl) ?_
  refine lv_iconst (v := 2) hx1 hb dL_law_1219 (by decide) ?_
  refine lv_iadd hx1 hb dL_law_1220 ?_
  refine va_sld hx1 hb hX hbl hbA hS (li_ (j := 2) (by omega) hL) dL_law_1221 ?_
  refine lv_aload_n hx1 hb dL_law_1222 rfl (lv_at hl 0 rfl) ?_
  refine lv_iload hx1 hb dL_law_1223 (lv_at hl 4 rfl) ?_
  refine lv_iconst (v := 3) hx1 hb dL_law_1225 (by decide) ?_
  refine lv_iadd hx1 hb dL_law_1226 ?_
  refine va_sld hx1 hb hX hbl hbA hS (li_ (j := 3) (by omega) hL) dL_law_1227 ?_
  refine lv_aload_n hx1 hb dL_law_1228 rfl (lv_at hl 0 rfl) ?_
  refine lv_iload hx1 hb dL_law_1229 (lv_at hl 4 rfl) ?_
  refine lv_iconst (v := 4) hx1 hb dL_law_1231 (by decide) ?_
  refine lv_iadd hx1 hb dL_law_1232 ?_
  refine va_sld hx1 hb hX hbl hbA hS (li_ (j := 4) (by omega) hL) dL_law_1233 ?_
  refine xq_i (wc := Wc) (wr := oU K o f :: Wr) (w1 := Wc2) (wn := oU K o f :: (Wc2 ++ Wr)) (pX _ _ _) (qX _ _ _) hP hD hS hA (va_runV (As := [.int (xs (nI i + (1 : Int32)).toNatClampNeg), .int (xs (nI i + (2 : Int32)).toNatClampNeg), .int (xs (nI i + (3 : Int32)).toNatClampNeg), .int (xs (nI i + (4 : Int32)).toNatClampNeg)]) (rest := []) C0.1 (h1 H.size) (cwV 4 hts gL_law_X10_choose rfl rfl rfl (by decide +kernel) ⟨Nat.le_of_ble_eq_true rfl, Nat.le_of_ble_eq_true rfl⟩) (yq_V C0.2 hP hD hS (pX _ _ _) 9 0 rfl he1 rfl) rfl rfl hl.1 rfl (lv_room (Nat.le_of_ble_eq_true rfl)) dL_law_1234 hc0) (fun H locs hP hD hS => ?_)
  refine lv_aload_n hx1 hb dL_law_1237 rfl (lv_at hl 2 rfl) ?_
  refine lv_aload_n hx1 hb dL_law_1238 rfl (lv_at hl 0 rfl) ?_
  refine lv_iload hx1 hb dL_law_1239 (lv_at hl 4 rfl) ?_
  refine lv_iconst (v := 1) hx1 hb dL_law_1241 (by decide) ?_
  refine lv_iadd hx1 hb dL_law_1242 ?_
  refine va_sld hx1 hb hX hbl hbA hS (li_ (j := 1) (by omega) hL) dL_law_1243 ?_
  refine lv_aload_n hx1 hb dL_law_1244 rfl (lv_at hl 0 rfl) ?_
  refine lv_iload hx1 hb dL_law_1245 (lv_at hl 4 rfl) ?_
  refine lv_iconst (v := 2) hx1 hb dL_law_1247 (by decide) ?_
  refine lv_iadd hx1 hb dL_law_1248 ?_
  refine va_sld hx1 hb hX hbl hbA hS (li_ (j := 2) (by omega) hL) dL_law_1249 ?_
  refine lv_aload_n hx1 hb dL_law_1250 rfl (lv_at hl 0 rfl) ?_
  refine lv_iload hx1 hb dL_law_1251 (lv_at hl 4 rfl) ?_
  refine lv_iconst (v := 3) hx1 hb dL_law_1253 (by decide) ?_
  refine lv_iadd hx1 hb dL_law_1254 ?_
  refine va_sld hx1 hb hX hbl hbA hS (li_ (j := 3) (by omega) hL) dL_law_1255 ?_
  refine lv_aload_n hx1 hb dL_law_1256 rfl (lv_at hl 0 rfl) ?_
  refine lv_iload hx1 hb dL_law_1257 (lv_at hl 4 rfl) ?_
  refine lv_iconst (v := 4) hx1 hb dL_law_1259 (by decide) ?_
  refine lv_iadd hx1 hb dL_law_1260 ?_
  refine va_sld hx1 hb hX hbl hbA hS (li_ (j := 4) (by omega) hL) dL_law_1261 ?_
  refine xq_i (wc := Wr) (wr := oU K o f :: Wc2) (w1 := Wr2) (wn := oU K o f :: (Wc2 ++ Wr2)) (pM _ _ _) (qM _ _ _) hP hD hS hA (va_runV (As := [.int (xs (nI i + (1 : Int32)).toNatClampNeg), .int (xs (nI i + (2 : Int32)).toNatClampNeg), .int (xs (nI i + (3 : Int32)).toNatClampNeg), .int (xs (nI i + (4 : Int32)).toNatClampNeg)]) (rest := [.int v]) C0.1 (h2 H.size) (cwV 4 hts gL_law_X11_choose rfl rfl rfl (by decide +kernel) ⟨Nat.le_of_ble_eq_true rfl, Nat.le_of_ble_eq_true rfl⟩) (yq_V C0.2 hP hD hS (pM _ _ _) 10 0 rfl he2 rfl) rfl rfl hl.1 rfl (lv_room (Nat.le_of_ble_eq_true rfl)) dL_law_1262 hc0) (fun H locs hP hD hS => ?_)
  refine lv_icmp_eq (tgt := 1512) hx1 hb dL_law_1265 (by decide) (fun c_ => ?_) (fun c_ => absurd rfl c_)
  refine W.widen (k := cells + 1) (n := slots + 6) (by omega) (by omega) ?_
  exact HC Wc2 Wr2 f H locs ls hsim2 hP hD hS hl
set_option maxHeartbeats 4000000 in
set_option maxRecDepth 100000 in
theorem lc_28 {p : Program} {l : Launch} {e : Env} {s : State} {m : MethodId} {below : List Frame} {meth : Method} {c : Code} {Q : State → Prop} {b L : Nat} {xs : Nat → Int32} {D : va_G} {K : Nat → ClassId} (C : LC p s m c b L xs D K) {i cells slots : Nat} (hi : i + 6 ≤ L) (hcs : cells + 1 ≤ 601024 ∧ slots + 6 ≤ 7293034) {hx hm o : Nat} {f : Nat → Int64} {Wc Wr : va_W} (hsim : SIM K hx hm Wc Wr) {H : Heap} {locs : List Loc} {ls : Array Slot} (hP : va_P D vwCl (oU K o f :: (Wc ++ Wr)) H) (hD : va_D (fun q : Nat => s.heap.size ≤ q) (oU K o f :: (Wc ++ Wr))) (hS : va_S (fun q : Nat => s.heap.size ≤ q) s.heap H locs) (hl : lv_has ls 7 [(0, .ref b), (1, .ref hx), (2, .ref hm), (3, .ref o), (4, .int (nI i))])
    (HC : ∀ (Wc2 Wr2 : va_W) (f2 : Nat → Int64) (H : Heap) (locs : List Loc) (ls : Array Slot), SIM K hx hm Wc2 Wr2 → va_P D vwCl (oU K o f2 :: (Wc2 ++ Wr2)) H → va_D (fun q : Nat => s.heap.size ≤ q) (oU K o f2 :: (Wc2 ++ Wr2)) → va_S (fun q : Nat => s.heap.size ≤ q) s.heap H locs → lv_has ls 7 [(0, .ref b), (1, .ref hx), (2, .ref hm), (3, .ref o), (4, .int (nI i))] → W p l e room_1 s m #[Value.ref b] below meth c H locs (cells + 1) (slots + 6) Q (F0 m 1512 ls [])) :
    W p l e room_1 s m #[Value.ref b] below meth c H locs cells slots Q (F0 m 1270 ls []) := by
  obtain ⟨C0, hTX, hX, hbl, hL⟩ := id C
  obtain ⟨⟨hx1, hb, hml, hown, hts⟩, hK, hA, -⟩ := id C0
  obtain ⟨⟨fs1, he1⟩, ⟨fs2, he2⟩⟩ := SIM_hd hsim
  have hbA : ¬ (fun q : Nat => s.heap.size ≤ q) b := Nat.not_le.mpr hbl
  have hc0 : cells + 0 ≤ room_1.cells ∧ slots + 0 ≤ room_1.slots := ⟨show cells + 0 ≤ 601024 by omega, show slots + 0 ≤ 7293034 by omega⟩
  obtain ⟨v, Wc2, Wr2, h1, h2, hsim2⟩ := sim_more l D hsim (bz (xs (nI i + (1 : Int32)).toNatClampNeg))
  refine lv_aload_n hx1 hb dL_law_1270 rfl (lv_at hl 1 rfl) ?_
  refine lv_aload_n hx1 hb dL_law_1271 rfl (lv_at hl 0 rfl) ?_
  refine lv_iload hx1 hb dL_law_1272 (lv_at hl 4 rfl) ?_
  refine lv_iconst (v := 1) hx1 hb dL_law_1274 (by decide) ?_
  refine lv_iadd hx1 hb dL_law_1275 ?_
  refine va_sld hx1 hb hX hbl hbA hS (li_ (j := 1) (by omega) hL) dL_law_1276 ?_
  refine lw_b hx1 hb dL_law_1277 dL_law_1280 dL_law_1281 dL_law_1284 ?_
  refine xq_i (wc := Wc) (wr := oU K o f :: Wr) (w1 := Wc2) (wn := oU K o f :: (Wc2 ++ Wr)) (pX _ _ _) (qX _ _ _) hP hD hS hA (va_runV (As := [.int (bz (xs (nI i + (1 : Int32)).toNatClampNeg))]) (rest := []) C0.1 (h1 H.size) (cwV 1 hts gL_law_X10_more rfl rfl rfl (by decide +kernel) ⟨Nat.le_of_ble_eq_true rfl, Nat.le_of_ble_eq_true rfl⟩) (yq_V C0.2 hP hD hS (pX _ _ _) 9 0 rfl he1 rfl) rfl rfl hl.1 rfl (lv_room (Nat.le_of_ble_eq_true rfl)) dL_law_1285 hc0) (fun H locs hP hD hS => ?_)
  refine lv_aload_n hx1 hb dL_law_1288 rfl (lv_at hl 2 rfl) ?_
  refine lv_aload_n hx1 hb dL_law_1289 rfl (lv_at hl 0 rfl) ?_
  refine lv_iload hx1 hb dL_law_1290 (lv_at hl 4 rfl) ?_
  refine lv_iconst (v := 1) hx1 hb dL_law_1292 (by decide) ?_
  refine lv_iadd hx1 hb dL_law_1293 ?_
  refine va_sld hx1 hb hX hbl hbA hS (li_ (j := 1) (by omega) hL) dL_law_1294 ?_
  refine lw_b hx1 hb dL_law_1295 dL_law_1298 dL_law_1299 dL_law_1302 ?_
  refine xq_i (wc := Wr) (wr := oU K o f :: Wc2) (w1 := Wr2) (wn := oU K o f :: (Wc2 ++ Wr2)) (pM _ _ _) (qM _ _ _) hP hD hS hA (va_runV (As := [.int (bz (xs (nI i + (1 : Int32)).toNatClampNeg))]) (rest := [.int v]) C0.1 (h2 H.size) (cwV 1 hts gL_law_X11_more rfl rfl rfl (by decide +kernel) ⟨Nat.le_of_ble_eq_true rfl, Nat.le_of_ble_eq_true rfl⟩) (yq_V C0.2 hP hD hS (pM _ _ _) 10 0 rfl he2 rfl) rfl rfl hl.1 rfl (lv_room (Nat.le_of_ble_eq_true rfl)) dL_law_1303 hc0) (fun H locs hP hD hS => ?_)
  refine lv_icmp_eq (tgt := 1512) hx1 hb dL_law_1306 (by decide) (fun c_ => ?_) (fun c_ => absurd rfl c_)
  refine W.widen (k := cells + 1) (n := slots + 6) (by omega) (by omega) ?_
  exact HC Wc2 Wr2 f H locs ls hsim2 hP hD hS hl
set_option maxHeartbeats 4000000 in
set_option maxRecDepth 100000 in
theorem lc_29 {p : Program} {l : Launch} {e : Env} {s : State} {m : MethodId} {below : List Frame} {meth : Method} {c : Code} {Q : State → Prop} {b L : Nat} {xs : Nat → Int32} {D : va_G} {K : Nat → ClassId} (C : LC p s m c b L xs D K) {i cells slots : Nat} (hi : i + 6 ≤ L) (hcs : cells + 1 ≤ 601024 ∧ slots + 6 ≤ 7293034) {hx hm o : Nat} {f : Nat → Int64} {Wc Wr : va_W} (hsim : SIM K hx hm Wc Wr) {H : Heap} {locs : List Loc} {ls : Array Slot} (hP : va_P D vwCl (oU K o f :: (Wc ++ Wr)) H) (hD : va_D (fun q : Nat => s.heap.size ≤ q) (oU K o f :: (Wc ++ Wr))) (hS : va_S (fun q : Nat => s.heap.size ≤ q) s.heap H locs) (hl : lv_has ls 7 [(0, .ref b), (1, .ref hx), (2, .ref hm), (3, .ref o), (4, .int (nI i))])
    (HC : ∀ (Wc2 Wr2 : va_W) (f2 : Nat → Int64) (H : Heap) (locs : List Loc) (ls : Array Slot), SIM K hx hm Wc2 Wr2 → va_P D vwCl (oU K o f2 :: (Wc2 ++ Wr2)) H → va_D (fun q : Nat => s.heap.size ≤ q) (oU K o f2 :: (Wc2 ++ Wr2)) → va_S (fun q : Nat => s.heap.size ≤ q) s.heap H locs → lv_has ls 7 [(0, .ref b), (1, .ref hx), (2, .ref hm), (3, .ref o), (4, .int (nI i))] → W p l e room_1 s m #[Value.ref b] below meth c H locs (cells + 1) (slots + 6) Q (F0 m 1512 ls [])) :
    W p l e room_1 s m #[Value.ref b] below meth c H locs cells slots Q (F0 m 1311 ls []) := by
  obtain ⟨C0, hTX, hX, hbl, hL⟩ := id C
  obtain ⟨⟨hx1, hb, hml, hown, hts⟩, hK, hA, -⟩ := id C0
  obtain ⟨⟨fs1, he1⟩, ⟨fs2, he2⟩⟩ := SIM_hd hsim
  have hbA : ¬ (fun q : Nat => s.heap.size ≤ q) b := Nat.not_le.mpr hbl
  have hc0 : cells + 0 ≤ room_1.cells ∧ slots + 0 ≤ room_1.slots := ⟨show cells + 0 ≤ 601024 by omega, show slots + 0 ≤ 7293034 by omega⟩
  obtain ⟨v, Wc2, Wr2, h1, h2, hsim2⟩ := sim_shaken l D hsim (xs (nI i + (1 : Int32)).toNatClampNeg) (bz (xs (nI i + (2 : Int32)).toNatClampNeg))
  refine lv_aload_n hx1 hb dL_law_1311 rfl (lv_at hl 1 rfl) ?_
  refine lv_aload_n hx1 hb dL_law_1312 rfl (lv_at hl 0 rfl) ?_
  refine lv_iload hx1 hb dL_law_1313 (lv_at hl 4 rfl) ?_
  refine lv_iconst (v := 1) hx1 hb dL_law_1315 (by decide) ?_
  refine lv_iadd hx1 hb dL_law_1316 ?_
  refine va_sld hx1 hb hX hbl hbA hS (li_ (j := 1) (by omega) hL) dL_law_1317 ?_
  refine lv_aload_n hx1 hb dL_law_1318 rfl (lv_at hl 0 rfl) ?_
  refine lv_iload hx1 hb dL_law_1319 (lv_at hl 4 rfl) ?_
  refine lv_iconst (v := 2) hx1 hb dL_law_1321 (by decide) ?_
  refine lv_iadd hx1 hb dL_law_1322 ?_
  refine va_sld hx1 hb hX hbl hbA hS (li_ (j := 2) (by omega) hL) dL_law_1323 ?_
  refine lw_b hx1 hb dL_law_1324 dL_law_1327 dL_law_1328 dL_law_1331 ?_
  refine xq_i (wc := Wc) (wr := oU K o f :: Wr) (w1 := Wc2) (wn := oU K o f :: (Wc2 ++ Wr)) (pX _ _ _) (qX _ _ _) hP hD hS hA (va_runV (As := [.int (xs (nI i + (1 : Int32)).toNatClampNeg), .int (bz (xs (nI i + (2 : Int32)).toNatClampNeg))]) (rest := []) C0.1 (h1 H.size) (cwV 2 hts gL_law_X10_shaken rfl rfl rfl (by decide +kernel) ⟨Nat.le_of_ble_eq_true rfl, Nat.le_of_ble_eq_true rfl⟩) (yq_V C0.2 hP hD hS (pX _ _ _) 9 0 rfl he1 rfl) rfl rfl hl.1 rfl (lv_room (Nat.le_of_ble_eq_true rfl)) dL_law_1332 hc0) (fun H locs hP hD hS => ?_)
  refine lv_aload_n hx1 hb dL_law_1335 rfl (lv_at hl 2 rfl) ?_
  refine lv_aload_n hx1 hb dL_law_1336 rfl (lv_at hl 0 rfl) ?_
  refine lv_iload hx1 hb dL_law_1337 (lv_at hl 4 rfl) ?_
  refine lv_iconst (v := 1) hx1 hb dL_law_1339 (by decide) ?_
  refine lv_iadd hx1 hb dL_law_1340 ?_
  refine va_sld hx1 hb hX hbl hbA hS (li_ (j := 1) (by omega) hL) dL_law_1341 ?_
  refine lv_aload_n hx1 hb dL_law_1342 rfl (lv_at hl 0 rfl) ?_
  refine lv_iload hx1 hb dL_law_1343 (lv_at hl 4 rfl) ?_
  refine lv_iconst (v := 2) hx1 hb dL_law_1345 (by decide) ?_
  refine lv_iadd hx1 hb dL_law_1346 ?_
  refine va_sld hx1 hb hX hbl hbA hS (li_ (j := 2) (by omega) hL) dL_law_1347 ?_
  refine lw_b hx1 hb dL_law_1348 dL_law_1351 dL_law_1352 dL_law_1355 ?_
  refine xq_i (wc := Wr) (wr := oU K o f :: Wc2) (w1 := Wr2) (wn := oU K o f :: (Wc2 ++ Wr2)) (pM _ _ _) (qM _ _ _) hP hD hS hA (va_runV (As := [.int (xs (nI i + (1 : Int32)).toNatClampNeg), .int (bz (xs (nI i + (2 : Int32)).toNatClampNeg))]) (rest := [.int v]) C0.1 (h2 H.size) (cwV 2 hts gL_law_X11_shaken rfl rfl rfl (by decide +kernel) ⟨Nat.le_of_ble_eq_true rfl, Nat.le_of_ble_eq_true rfl⟩) (yq_V C0.2 hP hD hS (pM _ _ _) 10 0 rfl he2 rfl) rfl rfl hl.1 rfl (lv_room (Nat.le_of_ble_eq_true rfl)) dL_law_1356 hc0) (fun H locs hP hD hS => ?_)
  refine lv_icmp_eq (tgt := 1512) hx1 hb dL_law_1359 (by decide) (fun c_ => ?_) (fun c_ => absurd rfl c_)
  refine W.widen (k := cells + 1) (n := slots + 6) (by omega) (by omega) ?_
  exact HC Wc2 Wr2 f H locs ls hsim2 hP hD hS hl
set_option maxHeartbeats 4000000 in
set_option maxRecDepth 100000 in
theorem lc_30 {p : Program} {l : Launch} {e : Env} {s : State} {m : MethodId} {below : List Frame} {meth : Method} {c : Code} {Q : State → Prop} {b L : Nat} {xs : Nat → Int32} {D : va_G} {K : Nat → ClassId} (C : LC p s m c b L xs D K) {i cells slots : Nat} (hi : i + 6 ≤ L) (hcs : cells + 1 ≤ 601024 ∧ slots + 6 ≤ 7293034) {hx hm o : Nat} {f : Nat → Int64} {Wc Wr : va_W} (hsim : SIM K hx hm Wc Wr) {H : Heap} {locs : List Loc} {ls : Array Slot} (hP : va_P D vwCl (oU K o f :: (Wc ++ Wr)) H) (hD : va_D (fun q : Nat => s.heap.size ≤ q) (oU K o f :: (Wc ++ Wr))) (hS : va_S (fun q : Nat => s.heap.size ≤ q) s.heap H locs) (hl : lv_has ls 7 [(0, .ref b), (1, .ref hx), (2, .ref hm), (3, .ref o), (4, .int (nI i))])
    (HC : ∀ (Wc2 Wr2 : va_W) (f2 : Nat → Int64) (H : Heap) (locs : List Loc) (ls : Array Slot), SIM K hx hm Wc2 Wr2 → va_P D vwCl (oU K o f2 :: (Wc2 ++ Wr2)) H → va_D (fun q : Nat => s.heap.size ≤ q) (oU K o f2 :: (Wc2 ++ Wr2)) → va_S (fun q : Nat => s.heap.size ≤ q) s.heap H locs → lv_has ls 7 [(0, .ref b), (1, .ref hx), (2, .ref hm), (3, .ref o), (4, .int (nI i))] → W p l e room_1 s m #[Value.ref b] below meth c H locs (cells + 1) (slots + 6) Q (F0 m 1512 ls [])) :
    W p l e room_1 s m #[Value.ref b] below meth c H locs cells slots Q (F0 m 1364 ls []) := by
  obtain ⟨C0, hTX, hX, hbl, hL⟩ := id C
  obtain ⟨⟨hx1, hb, hml, hown, hts⟩, hK, hA, -⟩ := id C0
  obtain ⟨⟨fs1, he1⟩, ⟨fs2, he2⟩⟩ := SIM_hd hsim
  have hbA : ¬ (fun q : Nat => s.heap.size ≤ q) b := Nat.not_le.mpr hbl
  have hc0 : cells + 0 ≤ room_1.cells ∧ slots + 0 ≤ room_1.slots := ⟨show cells + 0 ≤ 601024 by omega, show slots + 0 ≤ 7293034 by omega⟩
  obtain ⟨v, Wc2, Wr2, h1, h2, hsim2⟩ := sim_dwell l D hsim (xs (nI i + (1 : Int32)).toNatClampNeg) (xs (nI i + (2 : Int32)).toNatClampNeg) (xs (nI i + (3 : Int32)).toNatClampNeg) (xs (nI i + (4 : Int32)).toNatClampNeg)
  refine lv_aload_n hx1 hb dL_law_1364 rfl (lv_at hl 1 rfl) ?_
  refine lv_aload_n hx1 hb dL_law_1365 rfl (lv_at hl 0 rfl) ?_
  refine lv_iload hx1 hb dL_law_1366 (lv_at hl 4 rfl) ?_
  refine lv_iconst (v := 1) hx1 hb dL_law_1368 (by decide) ?_
  refine lv_iadd hx1 hb dL_law_1369 ?_
  refine va_sld hx1 hb hX hbl hbA hS (li_ (j := 1) (by omega) hL) dL_law_1370 ?_
  refine lv_aload_n hx1 hb dL_law_1371 rfl (lv_at hl 0 rfl) ?_
  refine lv_iload hx1 hb dL_law_1372 (lv_at hl 4 rfl) ?_
  refine lv_iconst (v := 2) hx1 hb dL_law_1374 (by decide) ?_
  refine lv_iadd hx1 hb dL_law_1375 ?_
  refine va_sld hx1 hb hX hbl hbA hS (li_ (j := 2) (by omega) hL) dL_law_1376 ?_
  refine lv_aload_n hx1 hb dL_law_1377 rfl (lv_at hl 0 rfl) ?_
  refine lv_iload hx1 hb dL_law_1378 (lv_at hl 4 rfl) ?_
  refine lv_iconst (v := 3) hx1 hb dL_law_1380 (by decide) ?_
  refine lv_iadd hx1 hb dL_law_1381 ?_
  refine va_sld hx1 hb hX hbl hbA hS (li_ (j := 3) (by omega) hL) dL_law_1382 ?_
  refine lv_aload_n hx1 hb dL_law_1383 rfl (lv_at hl 0 rfl) ?_
  refine lv_iload hx1 hb dL_law_1384 (lv_at hl 4 rfl) ?_
  refine lv_iconst (v := 4) hx1 hb dL_law_1386 (by decide) ?_
  refine lv_iadd hx1 hb dL_law_1387 ?_
  refine va_sld hx1 hb hX hbl hbA hS (li_ (j := 4) (by omega) hL) dL_law_1388 ?_
  refine xq_i (wc := Wc) (wr := oU K o f :: Wr) (w1 := Wc2) (wn := oU K o f :: (Wc2 ++ Wr)) (pX _ _ _) (qX _ _ _) hP hD hS hA (va_runV (As := [.int (xs (nI i + (1 : Int32)).toNatClampNeg), .int (xs (nI i + (2 : Int32)).toNatClampNeg), .int (xs (nI i + (3 : Int32)).toNatClampNeg), .int (xs (nI i + (4 : Int32)).toNatClampNeg)]) (rest := []) C0.1 (h1 H.size) (cwV 4 hts gL_law_X10_dwell rfl rfl rfl (by decide +kernel) ⟨Nat.le_of_ble_eq_true rfl, Nat.le_of_ble_eq_true rfl⟩) (yq_V C0.2 hP hD hS (pX _ _ _) 9 0 rfl he1 rfl) rfl rfl hl.1 rfl (lv_room (Nat.le_of_ble_eq_true rfl)) dL_law_1389 hc0) (fun H locs hP hD hS => ?_)
  refine lv_aload_n hx1 hb dL_law_1392 rfl (lv_at hl 2 rfl) ?_
  refine lv_aload_n hx1 hb dL_law_1393 rfl (lv_at hl 0 rfl) ?_
  refine lv_iload hx1 hb dL_law_1394 (lv_at hl 4 rfl) ?_
  refine lv_iconst (v := 1) hx1 hb dL_law_1396 (by decide) ?_
  refine lv_iadd hx1 hb dL_law_1397 ?_
  refine va_sld hx1 hb hX hbl hbA hS (li_ (j := 1) (by omega) hL) dL_law_1398 ?_
  refine lv_aload_n hx1 hb dL_law_1399 rfl (lv_at hl 0 rfl) ?_
  refine lv_iload hx1 hb dL_law_1400 (lv_at hl 4 rfl) ?_
  refine lv_iconst (v := 2) hx1 hb dL_law_1402 (by decide) ?_
  refine lv_iadd hx1 hb dL_law_1403 ?_
  refine va_sld hx1 hb hX hbl hbA hS (li_ (j := 2) (by omega) hL) dL_law_1404 ?_
  refine lv_aload_n hx1 hb dL_law_1405 rfl (lv_at hl 0 rfl) ?_
  refine lv_iload hx1 hb dL_law_1406 (lv_at hl 4 rfl) ?_
  refine lv_iconst (v := 3) hx1 hb dL_law_1408 (by decide) ?_
  refine lv_iadd hx1 hb dL_law_1409 ?_
  refine va_sld hx1 hb hX hbl hbA hS (li_ (j := 3) (by omega) hL) dL_law_1410 ?_
  refine lv_aload_n hx1 hb dL_law_1411 rfl (lv_at hl 0 rfl) ?_
  refine lv_iload hx1 hb dL_law_1412 (lv_at hl 4 rfl) ?_
  refine lv_iconst (v := 4) hx1 hb dL_law_1414 (by decide) ?_
  refine lv_iadd hx1 hb dL_law_1415 ?_
  refine va_sld hx1 hb hX hbl hbA hS (li_ (j := 4) (by omega) hL) dL_law_1416 ?_
  refine xq_i (wc := Wr) (wr := oU K o f :: Wc2) (w1 := Wr2) (wn := oU K o f :: (Wc2 ++ Wr2)) (pM _ _ _) (qM _ _ _) hP hD hS hA (va_runV (As := [.int (xs (nI i + (1 : Int32)).toNatClampNeg), .int (xs (nI i + (2 : Int32)).toNatClampNeg), .int (xs (nI i + (3 : Int32)).toNatClampNeg), .int (xs (nI i + (4 : Int32)).toNatClampNeg)]) (rest := [.int v]) C0.1 (h2 H.size) (cwV 4 hts gL_law_X11_dwell rfl rfl rfl (by decide +kernel) ⟨Nat.le_of_ble_eq_true rfl, Nat.le_of_ble_eq_true rfl⟩) (yq_V C0.2 hP hD hS (pM _ _ _) 10 0 rfl he2 rfl) rfl rfl hl.1 rfl (lv_room (Nat.le_of_ble_eq_true rfl)) dL_law_1417 hc0) (fun H locs hP hD hS => ?_)
  refine lv_icmp_eq (tgt := 1512) hx1 hb dL_law_1420 (by decide) (fun c_ => ?_) (fun c_ => absurd rfl c_)
  refine W.widen (k := cells + 1) (n := slots + 6) (by omega) (by omega) ?_
  exact HC Wc2 Wr2 f H locs ls hsim2 hP hD hS hl
set_option maxHeartbeats 4000000 in
set_option maxRecDepth 100000 in
theorem lc_31 {p : Program} {l : Launch} {e : Env} {s : State} {m : MethodId} {below : List Frame} {meth : Method} {c : Code} {Q : State → Prop} {b L : Nat} {xs : Nat → Int32} {D : va_G} {K : Nat → ClassId} (C : LC p s m c b L xs D K) {i cells slots : Nat} (hi : i + 6 ≤ L) (hcs : cells + 1 ≤ 601024 ∧ slots + 6 ≤ 7293034) {hx hm o : Nat} {f : Nat → Int64} {Wc Wr : va_W} (hsim : SIM K hx hm Wc Wr) {H : Heap} {locs : List Loc} {ls : Array Slot} (hP : va_P D vwCl (oU K o f :: (Wc ++ Wr)) H) (hD : va_D (fun q : Nat => s.heap.size ≤ q) (oU K o f :: (Wc ++ Wr))) (hS : va_S (fun q : Nat => s.heap.size ≤ q) s.heap H locs) (hl : lv_has ls 7 [(0, .ref b), (1, .ref hx), (2, .ref hm), (3, .ref o), (4, .int (nI i))])
    (HC : ∀ (Wc2 Wr2 : va_W) (f2 : Nat → Int64) (H : Heap) (locs : List Loc) (ls : Array Slot), SIM K hx hm Wc2 Wr2 → va_P D vwCl (oU K o f2 :: (Wc2 ++ Wr2)) H → va_D (fun q : Nat => s.heap.size ≤ q) (oU K o f2 :: (Wc2 ++ Wr2)) → va_S (fun q : Nat => s.heap.size ≤ q) s.heap H locs → lv_has ls 7 [(0, .ref b), (1, .ref hx), (2, .ref hm), (3, .ref o), (4, .int (nI i))] → W p l e room_1 s m #[Value.ref b] below meth c H locs (cells + 1) (slots + 6) Q (F0 m 1512 ls [])) :
    W p l e room_1 s m #[Value.ref b] below meth c H locs cells slots Q (F0 m 1425 ls []) := by
  obtain ⟨C0, hTX, hX, hbl, hL⟩ := id C
  obtain ⟨⟨hx1, hb, hml, hown, hts⟩, hK, hA, -⟩ := id C0
  obtain ⟨⟨fs1, he1⟩, ⟨fs2, he2⟩⟩ := SIM_hd hsim
  have hbA : ¬ (fun q : Nat => s.heap.size ≤ q) b := Nat.not_le.mpr hbl
  have hc0 : cells + 0 ≤ room_1.cells ∧ slots + 0 ≤ room_1.slots := ⟨show cells + 0 ≤ 601024 by omega, show slots + 0 ≤ 7293034 by omega⟩
  obtain ⟨v, Wc2, Wr2, h1, h2, hsim2⟩ := sim_until l D hsim (xs (nI i + (1 : Int32)).toNatClampNeg) (xs (nI i + (2 : Int32)).toNatClampNeg)
  refine lv_aload_n hx1 hb dL_law_1425 rfl (lv_at hl 1 rfl) ?_
  refine lv_aload_n hx1 hb dL_law_1426 rfl (lv_at hl 0 rfl) ?_
  refine lv_iload hx1 hb dL_law_1427 (lv_at hl 4 rfl) ?_
  refine lv_iconst (v := 1) hx1 hb dL_law_1429 (by decide) ?_
  refine lv_iadd hx1 hb dL_law_1430 ?_
  refine va_sld hx1 hb hX hbl hbA hS (li_ (j := 1) (by omega) hL) dL_law_1431 ?_
  refine lv_aload_n hx1 hb dL_law_1432 rfl (lv_at hl 0 rfl) ?_
  refine lv_iload hx1 hb dL_law_1433 (lv_at hl 4 rfl) ?_
  refine lv_iconst (v := 2) hx1 hb dL_law_1435 (by decide) ?_
  refine lv_iadd hx1 hb dL_law_1436 ?_
  refine va_sld hx1 hb hX hbl hbA hS (li_ (j := 2) (by omega) hL) dL_law_1437 ?_
  refine xq_i (wc := Wc) (wr := oU K o f :: Wr) (w1 := Wc2) (wn := oU K o f :: (Wc2 ++ Wr)) (pX _ _ _) (qX _ _ _) hP hD hS hA (va_runV (As := [.int (xs (nI i + (1 : Int32)).toNatClampNeg), .int (xs (nI i + (2 : Int32)).toNatClampNeg)]) (rest := []) C0.1 (h1 H.size) (cwV 2 hts gL_law_X10_until rfl rfl rfl (by decide +kernel) ⟨Nat.le_of_ble_eq_true rfl, Nat.le_of_ble_eq_true rfl⟩) (yq_V C0.2 hP hD hS (pX _ _ _) 9 0 rfl he1 rfl) rfl rfl hl.1 rfl (lv_room (Nat.le_of_ble_eq_true rfl)) dL_law_1438 hc0) (fun H locs hP hD hS => ?_)
  refine lv_aload_n hx1 hb dL_law_1441 rfl (lv_at hl 2 rfl) ?_
  refine lv_aload_n hx1 hb dL_law_1442 rfl (lv_at hl 0 rfl) ?_
  refine lv_iload hx1 hb dL_law_1443 (lv_at hl 4 rfl) ?_
  refine lv_iconst (v := 1) hx1 hb dL_law_1445 (by decide) ?_
  refine lv_iadd hx1 hb dL_law_1446 ?_
  refine va_sld hx1 hb hX hbl hbA hS (li_ (j := 1) (by omega) hL) dL_law_1447 ?_
  refine lv_aload_n hx1 hb dL_law_1448 rfl (lv_at hl 0 rfl) ?_
  refine lv_iload hx1 hb dL_law_1449 (lv_at hl 4 rfl) ?_
  refine lv_iconst (v := 2) hx1 hb dL_law_1451 (by decide) ?_
  refine lv_iadd hx1 hb dL_law_1452 ?_
  refine va_sld hx1 hb hX hbl hbA hS (li_ (j := 2) (by omega) hL) dL_law_1453 ?_
  refine xq_i (wc := Wr) (wr := oU K o f :: Wc2) (w1 := Wr2) (wn := oU K o f :: (Wc2 ++ Wr2)) (pM _ _ _) (qM _ _ _) hP hD hS hA (va_runV (As := [.int (xs (nI i + (1 : Int32)).toNatClampNeg), .int (xs (nI i + (2 : Int32)).toNatClampNeg)]) (rest := [.int v]) C0.1 (h2 H.size) (cwV 2 hts gL_law_X11_until rfl rfl rfl (by decide +kernel) ⟨Nat.le_of_ble_eq_true rfl, Nat.le_of_ble_eq_true rfl⟩) (yq_V C0.2 hP hD hS (pM _ _ _) 10 0 rfl he2 rfl) rfl rfl hl.1 rfl (lv_room (Nat.le_of_ble_eq_true rfl)) dL_law_1454 hc0) (fun H locs hP hD hS => ?_)
  refine lv_icmp_eq (tgt := 1512) hx1 hb dL_law_1457 (by decide) (fun c_ => ?_) (fun c_ => absurd rfl c_)
  refine W.widen (k := cells + 1) (n := slots + 6) (by omega) (by omega) ?_
  exact HC Wc2 Wr2 f H locs ls hsim2 hP hD hS hl
set_option maxHeartbeats 4000000 in
set_option maxRecDepth 100000 in
theorem lc_32 {p : Program} {l : Launch} {e : Env} {s : State} {m : MethodId} {below : List Frame} {meth : Method} {c : Code} {Q : State → Prop} {b L : Nat} {xs : Nat → Int32} {D : va_G} {K : Nat → ClassId} (C : LC p s m c b L xs D K) {i cells slots : Nat} (hi : i + 6 ≤ L) (hcs : cells + 1 ≤ 601024 ∧ slots + 6 ≤ 7293034) {hx hm o : Nat} {f : Nat → Int64} {Wc Wr : va_W} (hsim : SIM K hx hm Wc Wr) {H : Heap} {locs : List Loc} {ls : Array Slot} (hP : va_P D vwCl (oU K o f :: (Wc ++ Wr)) H) (hD : va_D (fun q : Nat => s.heap.size ≤ q) (oU K o f :: (Wc ++ Wr))) (hS : va_S (fun q : Nat => s.heap.size ≤ q) s.heap H locs) (hl : lv_has ls 7 [(0, .ref b), (1, .ref hx), (2, .ref hm), (3, .ref o), (4, .int (nI i))])
    (HC : ∀ (Wc2 Wr2 : va_W) (f2 : Nat → Int64) (H : Heap) (locs : List Loc) (ls : Array Slot), SIM K hx hm Wc2 Wr2 → va_P D vwCl (oU K o f2 :: (Wc2 ++ Wr2)) H → va_D (fun q : Nat => s.heap.size ≤ q) (oU K o f2 :: (Wc2 ++ Wr2)) → va_S (fun q : Nat => s.heap.size ≤ q) s.heap H locs → lv_has ls 7 [(0, .ref b), (1, .ref hx), (2, .ref hm), (3, .ref o), (4, .int (nI i))] → W p l e room_1 s m #[Value.ref b] below meth c H locs (cells + 1) (slots + 6) Q (F0 m 1512 ls [])) :
    W p l e room_1 s m #[Value.ref b] below meth c H locs cells slots Q (F0 m 1462 ls []) := by
  obtain ⟨C0, hTX, hX, hbl, hL⟩ := id C
  obtain ⟨⟨hx1, hb, hml, hown, hts⟩, hK, hA, -⟩ := id C0
  obtain ⟨⟨fs1, he1⟩, ⟨fs2, he2⟩⟩ := SIM_hd hsim
  have hbA : ¬ (fun q : Nat => s.heap.size ≤ q) b := Nat.not_le.mpr hbl
  have hc0 : cells + 0 ≤ room_1.cells ∧ slots + 0 ≤ room_1.slots := ⟨show cells + 0 ≤ 601024 by omega, show slots + 0 ≤ 7293034 by omega⟩
  obtain ⟨v, Wc2, Wr2, h1, h2, hsim2⟩ := sim_image l D hsim (xs (nI i + (1 : Int32)).toNatClampNeg)
  refine lv_aload_n hx1 hb dL_law_1462 rfl (lv_at hl 1 rfl) ?_
  refine lv_aload_n hx1 hb dL_law_1463 rfl (lv_at hl 0 rfl) ?_
  refine lv_iload hx1 hb dL_law_1464 (lv_at hl 4 rfl) ?_
  refine lv_iconst (v := 1) hx1 hb dL_law_1466 (by decide) ?_
  refine lv_iadd hx1 hb dL_law_1467 ?_
  refine va_sld hx1 hb hX hbl hbA hS (li_ (j := 1) (by omega) hL) dL_law_1468 ?_
  refine xq_i (wc := Wc) (wr := oU K o f :: Wr) (w1 := Wc2) (wn := oU K o f :: (Wc2 ++ Wr)) (pX _ _ _) (qX _ _ _) hP hD hS hA (va_runV (As := [.int (xs (nI i + (1 : Int32)).toNatClampNeg)]) (rest := []) C0.1 (h1 H.size) (cwV 1 hts gL_law_X10_image rfl rfl rfl (by decide +kernel) ⟨Nat.le_of_ble_eq_true rfl, Nat.le_of_ble_eq_true rfl⟩) (yq_V C0.2 hP hD hS (pX _ _ _) 9 0 rfl he1 rfl) rfl rfl hl.1 rfl (lv_room (Nat.le_of_ble_eq_true rfl)) dL_law_1469 hc0) (fun H locs hP hD hS => ?_)
  refine lv_aload_n hx1 hb dL_law_1472 rfl (lv_at hl 2 rfl) ?_
  refine lv_aload_n hx1 hb dL_law_1473 rfl (lv_at hl 0 rfl) ?_
  refine lv_iload hx1 hb dL_law_1474 (lv_at hl 4 rfl) ?_
  refine lv_iconst (v := 1) hx1 hb dL_law_1476 (by decide) ?_
  refine lv_iadd hx1 hb dL_law_1477 ?_
  refine va_sld hx1 hb hX hbl hbA hS (li_ (j := 1) (by omega) hL) dL_law_1478 ?_
  refine xq_i (wc := Wr) (wr := oU K o f :: Wc2) (w1 := Wr2) (wn := oU K o f :: (Wc2 ++ Wr2)) (pM _ _ _) (qM _ _ _) hP hD hS hA (va_runV (As := [.int (xs (nI i + (1 : Int32)).toNatClampNeg)]) (rest := [.int v]) C0.1 (h2 H.size) (cwV 1 hts gL_law_X11_image rfl rfl rfl (by decide +kernel) ⟨Nat.le_of_ble_eq_true rfl, Nat.le_of_ble_eq_true rfl⟩) (yq_V C0.2 hP hD hS (pM _ _ _) 10 0 rfl he2 rfl) rfl rfl hl.1 rfl (lv_room (Nat.le_of_ble_eq_true rfl)) dL_law_1479 hc0) (fun H locs hP hD hS => ?_)
  refine lv_icmp_eq (tgt := 1512) hx1 hb dL_law_1482 (by decide) (fun c_ => ?_) (fun c_ => absurd rfl c_)
  refine W.widen (k := cells + 1) (n := slots + 6) (by omega) (by omega) ?_
  exact HC Wc2 Wr2 f H locs ls hsim2 hP hD hS hl
set_option maxHeartbeats 4000000 in
set_option maxRecDepth 100000 in
theorem lc_33 {p : Program} {l : Launch} {e : Env} {s : State} {m : MethodId} {below : List Frame} {meth : Method} {c : Code} {Q : State → Prop} {b L : Nat} {xs : Nat → Int32} {D : va_G} {K : Nat → ClassId} (C : LC p s m c b L xs D K) {i cells slots : Nat} (hi : i + 6 ≤ L) (hcs : cells + 1 ≤ 601024 ∧ slots + 6 ≤ 7293034) {hx hm o : Nat} {f : Nat → Int64} {Wc Wr : va_W} (hsim : SIM K hx hm Wc Wr) {H : Heap} {locs : List Loc} {ls : Array Slot} (hP : va_P D vwCl (oU K o f :: (Wc ++ Wr)) H) (hD : va_D (fun q : Nat => s.heap.size ≤ q) (oU K o f :: (Wc ++ Wr))) (hS : va_S (fun q : Nat => s.heap.size ≤ q) s.heap H locs) (hl : lv_has ls 7 [(0, .ref b), (1, .ref hx), (2, .ref hm), (3, .ref o), (4, .int (nI i))])
    (HC : ∀ (Wc2 Wr2 : va_W) (f2 : Nat → Int64) (H : Heap) (locs : List Loc) (ls : Array Slot), SIM K hx hm Wc2 Wr2 → va_P D vwCl (oU K o f2 :: (Wc2 ++ Wr2)) H → va_D (fun q : Nat => s.heap.size ≤ q) (oU K o f2 :: (Wc2 ++ Wr2)) → va_S (fun q : Nat => s.heap.size ≤ q) s.heap H locs → lv_has ls 7 [(0, .ref b), (1, .ref hx), (2, .ref hm), (3, .ref o), (4, .int (nI i))] → W p l e room_1 s m #[Value.ref b] below meth c H locs (cells + 1) (slots + 6) Q (F0 m 1512 ls [])) :
    W p l e room_1 s m #[Value.ref b] below meth c H locs cells slots Q (F0 m 1487 ls []) := by
  obtain ⟨C0, hTX, hX, hbl, hL⟩ := id C
  obtain ⟨⟨hx1, hb, hml, hown, hts⟩, hK, hA, -⟩ := id C0
  obtain ⟨⟨fs1, he1⟩, ⟨fs2, he2⟩⟩ := SIM_hd hsim
  have hbA : ¬ (fun q : Nat => s.heap.size ≤ q) b := Nat.not_le.mpr hbl
  have hc0 : cells + 0 ≤ room_1.cells ∧ slots + 0 ≤ room_1.slots := ⟨show cells + 0 ≤ 601024 by omega, show slots + 0 ≤ 7293034 by omega⟩
  obtain ⟨v, Wc2, Wr2, h1, h2, hsim2⟩ := sim_again l D hsim (xs (nI i + (1 : Int32)).toNatClampNeg)
  refine lv_aload_n hx1 hb dL_law_1487 rfl (lv_at hl 1 rfl) ?_
  refine lv_aload_n hx1 hb dL_law_1488 rfl (lv_at hl 0 rfl) ?_
  refine lv_iload hx1 hb dL_law_1489 (lv_at hl 4 rfl) ?_
  refine lv_iconst (v := 1) hx1 hb dL_law_1491 (by decide) ?_
  refine lv_iadd hx1 hb dL_law_1492 ?_
  refine va_sld hx1 hb hX hbl hbA hS (li_ (j := 1) (by omega) hL) dL_law_1493 ?_
  refine xq_i (wc := Wc) (wr := oU K o f :: Wr) (w1 := Wc2) (wn := oU K o f :: (Wc2 ++ Wr)) (pX _ _ _) (qX _ _ _) hP hD hS hA (va_runV (As := [.int (xs (nI i + (1 : Int32)).toNatClampNeg)]) (rest := []) C0.1 (h1 H.size) (cwV 1 hts gL_law_X10_again rfl rfl rfl (by decide +kernel) ⟨Nat.le_of_ble_eq_true rfl, Nat.le_of_ble_eq_true rfl⟩) (yq_V C0.2 hP hD hS (pX _ _ _) 9 0 rfl he1 rfl) rfl rfl hl.1 rfl (lv_room (Nat.le_of_ble_eq_true rfl)) dL_law_1494 hc0) (fun H locs hP hD hS => ?_)
  refine lv_aload_n hx1 hb dL_law_1497 rfl (lv_at hl 2 rfl) ?_
  refine lv_aload_n hx1 hb dL_law_1498 rfl (lv_at hl 0 rfl) ?_
  refine lv_iload hx1 hb dL_law_1499 (lv_at hl 4 rfl) ?_
  refine lv_iconst (v := 1) hx1 hb dL_law_1501 (by decide) ?_
  refine lv_iadd hx1 hb dL_law_1502 ?_
  refine va_sld hx1 hb hX hbl hbA hS (li_ (j := 1) (by omega) hL) dL_law_1503 ?_
  refine xq_i (wc := Wr) (wr := oU K o f :: Wc2) (w1 := Wr2) (wn := oU K o f :: (Wc2 ++ Wr2)) (pM _ _ _) (qM _ _ _) hP hD hS hA (va_runV (As := [.int (xs (nI i + (1 : Int32)).toNatClampNeg)]) (rest := [.int v]) C0.1 (h2 H.size) (cwV 1 hts gL_law_X11_again rfl rfl rfl (by decide +kernel) ⟨Nat.le_of_ble_eq_true rfl, Nat.le_of_ble_eq_true rfl⟩) (yq_V C0.2 hP hD hS (pM _ _ _) 10 0 rfl he2 rfl) rfl rfl hl.1 rfl (lv_room (Nat.le_of_ble_eq_true rfl)) dL_law_1504 hc0) (fun H locs hP hD hS => ?_)
  refine lv_icmp_eq (tgt := 1512) hx1 hb dL_law_1507 (by decide) (fun c_ => ?_) (fun c_ => absurd rfl c_)
  refine W.widen (k := cells + 1) (n := slots + 6) (by omega) (by omega) ?_
  exact HC Wc2 Wr2 f H locs ls hsim2 hP hD hS hl
/-! ===== END ===== -/
