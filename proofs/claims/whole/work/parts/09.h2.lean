/-! ===== BEGIN the cases of the law ===== -/
set_option maxHeartbeats 4000000 in
set_option maxRecDepth 100000 in
theorem lc_12 {p : Program} {l : Launch} {e : Env} {s : State} {m : MethodId} {below : List Frame} {meth : Method} {c : Code} {Q : State → Prop} {b L : Nat} {xs : Nat → Int32} {D : va_G} {K : Nat → ClassId} (hl0 : l.stackTraces = false) (C : LC p s m c b L xs D K) {i cells slots : Nat} (hi : i + 6 ≤ L) (hcs : cells + 1 ≤ 601024 ∧ slots + 6 ≤ 7293034) {hx hm o : Nat} {f : Nat → Int64} {Wc Wr : va_W} (hsim : SIM K hx hm Wc Wr) {H : Heap} {locs : List Loc} {ls : Array Slot} (hP : va_P D vwCl (oU K o f :: (Wc ++ Wr)) H) (hD : va_D (fun q : Nat => s.heap.size ≤ q) (oU K o f :: (Wc ++ Wr))) (hS : va_S (fun q : Nat => s.heap.size ≤ q) s.heap H locs) (hl : lv_has ls 7 [(0, .ref b), (1, .ref hx), (2, .ref hm), (3, .ref o), (4, .int (nI i))])
    (HC : ∀ (Wc2 Wr2 : va_W) (f2 : Nat → Int64) (H : Heap) (locs : List Loc) (ls : Array Slot), SIM K hx hm Wc2 Wr2 → va_P D vwCl (oU K o f2 :: (Wc2 ++ Wr2)) H → va_D (fun q : Nat => s.heap.size ≤ q) (oU K o f2 :: (Wc2 ++ Wr2)) → va_S (fun q : Nat => s.heap.size ≤ q) s.heap H locs → lv_has ls 7 [(0, .ref b), (1, .ref hx), (2, .ref hm), (3, .ref o), (4, .int (nI i))] → W p l e room_1 s m #[Value.ref b] below meth c H locs (cells + 1) (slots + 6) Q (F0 m 1512 ls [])) :
    W p l e room_1 s m #[Value.ref b] below meth c H locs cells slots Q (F0 m 611 ls []) := by
  obtain ⟨C0, hTX, hX, hbl, hL⟩ := id C
  obtain ⟨⟨hx1, hb, hml, hown, hts⟩, hK, hA, -⟩ := id C0
  obtain ⟨⟨fs1, he1⟩, ⟨fs2, he2⟩⟩ := SIM_hd hsim
  have hbA : ¬ (fun q : Nat => s.heap.size ≤ q) b := Nat.not_le.mpr hbl
  have hc0 : cells + 0 ≤ room_1.cells ∧ slots + 0 ≤ room_1.slots := ⟨show cells + 0 ≤ 601024 by omega, show slots + 0 ≤ 7293034 by omega⟩
  have hc1 : cells + 1 + 0 ≤ room_1.cells ∧ slots + 6 + 0 ≤ room_1.slots := ⟨show cells + 1 + 0 ≤ 601024 by omega, show slots + 6 + 0 ≤ 7293034 by omega⟩
  have hc9 : cells + 1 ≤ room_1.cells ∧ slots + 6 ≤ room_1.slots := hcs
  obtain ⟨kk, bb, f2, Wc2, Wr2, h1, h2, h3, hsim2, hf2⟩ := sim_L_targetOf l hl0 D hsim o f (xs (nI i + (1 : Int32)).toNatClampNeg) (xs (nI i + (2 : Int32)).toNatClampNeg)
  obtain ⟨-, ⟨fs3, he3⟩⟩ := SIM_hd hsim2
  refine lv_aload_n hx1 hb dL_law_611 rfl (lv_at hl 1 rfl) ?_
  refine lv_aload_n hx1 hb dL_law_612 rfl (lv_at hl 0 rfl) ?_
  refine lv_iload hx1 hb dL_law_613 (lv_at hl 4 rfl) ?_
  refine lv_iconst (v := 1) hx1 hb dL_law_615 (by decide) ?_
  refine lv_iadd hx1 hb dL_law_616 ?_
  refine va_sld hx1 hb hX hbl hbA hS (li_ (j := 1) (by omega) hL) dL_law_617 ?_
  refine lv_aload_n hx1 hb dL_law_618 rfl (lv_at hl 0 rfl) ?_
  refine lv_iload hx1 hb dL_law_619 (lv_at hl 4 rfl) ?_
  refine lv_iconst (v := 2) hx1 hb dL_law_621 (by decide) ?_
  refine lv_iadd hx1 hb dL_law_622 ?_
  refine va_sld hx1 hb hX hbl hbA hS (li_ (j := 2) (by omega) hL) dL_law_623 ?_
  refine lv_aload_n hx1 hb dL_law_624 rfl (lv_at hl 3 rfl) ?_
  refine xq_i (wc := oU K o f :: Wc) (wr := Wr) (w1 := oU K o f2 :: Wc2) (wn := oU K o f2 :: (Wc2 ++ Wr)) (pL _ _ _) (qL _ _ _) hP hD hS hA (vx_runSW (As := [.ref hx, .int (xs (nI i + (1 : Int32)).toNatClampNeg), .int (xs (nI i + (2 : Int32)).toNatClampNeg), .ref o]) (rest := []) C0.1 (h1 H.size) (vx_cwSW 4 hts gL_law_L_targetOf rfl rfl rfl (by decide +kernel) ⟨Nat.le_of_ble_eq_true rfl, Nat.le_of_ble_eq_true rfl⟩) (yq_SX hTX C0.2 hP hD hS (pL _ _ _)) rfl rfl hl.1 rfl (lv_room (Nat.le_of_ble_eq_true rfl)) dL_law_625 hc9) (fun H locs hP hD hS => ?_)
  refine lv_istore (lv' := [(5, .int kk), (0, .ref b), (1, .ref hx), (2, .ref hm), (3, .ref o), (4, .int (nI i))]) hx1 hb dL_law_628 hl (by decide) rfl (fun ls hl => ?_)
  refine lv_aload_n hx1 hb dL_law_630 rfl (lv_at hl 3 rfl) ?_
  refine lv_aload_n hx1 hb dL_law_631 rfl (lv_at hl 1 rfl) ?_
  refine lv_iload hx1 hb dL_law_632 (lv_at hl 5 rfl) ?_
  refine lv_iconst (v := 1) hx1 hb dL_law_634 (by decide) ?_
  refine lv_iadd hx1 hb dL_law_635 ?_
  refine va_sld hx1 hb hX hbl hbA hS (li_ (j := 1) (by omega) hL) dL_law_636 ?_
  refine lv_aload_n hx1 hb dL_law_637 rfl (lv_at hl 1 rfl) ?_
  refine lv_iload hx1 hb dL_law_638 (lv_at hl 5 rfl) ?_
  refine lv_iconst (v := 2) hx1 hb dL_law_640 (by decide) ?_
  refine lv_iadd hx1 hb dL_law_641 ?_
  refine va_sld hx1 hb hX hbl hbA hS (li_ (j := 2) (by omega) hL) dL_law_642 ?_
  refine xq_i (wc := Wr) (wr := oU K o f2 :: Wc2) (w1 := Wr2) (wn := oU K o f2 :: (Wc2 ++ Wr2)) (pM _ _ _) (qM _ _ _) hP hD hS hA (va_runV (As := [.int (xs (nI i + (1 : Int32)).toNatClampNeg), .int (xs (nI i + (2 : Int32)).toNatClampNeg)]) (rest := []) C0.1 (h2 H.size) (cwV 2 hts gL_law_X11_targetOf rfl rfl rfl (by decide +kernel) ⟨Nat.le_of_ble_eq_true rfl, Nat.le_of_ble_eq_true rfl⟩) (yq_V C0.2 hP hD hS (pM _ _ _) 10 0 rfl he2 rfl) rfl rfl hl.1 rfl (lv_room (Nat.le_of_ble_eq_true rfl)) dL_law_643 hc1) (fun H locs hP hD hS => ?_)
  refine lv_istore (lv' := [(6, .int bb), (5, .int kk), (0, .ref b), (1, .ref hx), (2, .ref hm), (3, .ref o), (4, .int (nI i))]) hx1 hb dL_law_646 hl (by decide) rfl (fun ls hl => ?_)
  refine lv_aload_n hx1 hb dL_law_648 rfl (lv_at hl 4 rfl) ?_
  refine xq_i (wc := Wr2) (wr := oU K o f2 :: Wc2) (w1 := Wr2) (wn := oU K o f2 :: (Wc2 ++ Wr2)) (pM _ _ _) (qM _ _ _) hP hD hS hA (va_runV (As := []) (rest := []) C0.1 (h3 H.size) (cwV 0 hts gL_law_X11_thrown rfl rfl rfl (by decide +kernel) ⟨Nat.le_of_ble_eq_true rfl, Nat.le_of_ble_eq_true rfl⟩) (yq_V C0.2 hP hD hS (pM _ _ _) 10 0 rfl he3 rfl) rfl rfl hl.1 rfl (lv_room (Nat.le_of_ble_eq_true rfl)) dL_law_649 hc1) (fun H locs hP hD hS => ?_)
  refine lv_iload hx1 hb dL_law_652 (lv_at hl 1 rfl) ?_
  refine lv_icmp_eq (tgt := 659) hx1 hb dL_law_654 (by decide) (fun c_ => ?_) (fun c_ => absurd rfl c_)
  refine lv_iload hx1 hb dL_law_659 (lv_at hl 1 rfl) ?_
  refine lv_if_ne (tgt := 676) hx1 hb dL_law_661 (by decide) (fun c_ => ?_) (fun c_ => ?_)
  · refine lv_goto (tgt := 1512) hx1 hb dL_law_676 (by decide) ?_
    refine W.widen (k := cells + 1) (n := slots + 6) (by omega) (by omega) ?_
    exact HC Wc2 Wr2 f2 H locs ls hsim2 hP hD hS (lv_sub hl [2, 3, 4, 5, 6] rfl)
  · refine lv_aload_n hx1 hb dL_law_664 rfl (lv_at hl 5 rfl) ?_
    refine lv_iconst (v := 0) hx1 hb dL_law_665 (by decide) ?_
    refine xl_l (f := f2) hx1 hb hK hP 0 1 rfl rfl (k := 0) rfl (in_v (by decide)) dL_law_666 ?_
    refine lv_iload hx1 hb dL_law_667 (lv_at hl 0 rfl) ?_
    refine lv_i2l hx1 hb dL_law_669 rfl ?_
    refine W.lcmp hx1 hb dL_law_670 ?_
    refine lv_if_eq (tgt := 676) hx1 hb dL_law_671 (by decide) (fun c_2 => ?_) (fun c_2 => absurd (by rw [hf2 c_]; exact lg_cmp_rf _) c_2)
    refine lv_goto (tgt := 1512) hx1 hb dL_law_676 (by decide) ?_
    refine W.widen (k := cells + 1) (n := slots + 6) (by omega) (by omega) ?_
    exact HC Wc2 Wr2 f2 H locs ls hsim2 hP hD hS (lv_sub hl [2, 3, 4, 5, 6] rfl)
set_option maxHeartbeats 4000000 in
set_option maxRecDepth 100000 in
theorem lc_13 {p : Program} {l : Launch} {e : Env} {s : State} {m : MethodId} {below : List Frame} {meth : Method} {c : Code} {Q : State → Prop} {b L : Nat} {xs : Nat → Int32} {D : va_G} {K : Nat → ClassId} (C : LC p s m c b L xs D K) {i cells slots : Nat} (hi : i + 6 ≤ L) (hcs : cells + 1 ≤ 601024 ∧ slots + 6 ≤ 7293034) {hx hm o : Nat} {f : Nat → Int64} {Wc Wr : va_W} (hsim : SIM K hx hm Wc Wr) {H : Heap} {locs : List Loc} {ls : Array Slot} (hP : va_P D vwCl (oU K o f :: (Wc ++ Wr)) H) (hD : va_D (fun q : Nat => s.heap.size ≤ q) (oU K o f :: (Wc ++ Wr))) (hS : va_S (fun q : Nat => s.heap.size ≤ q) s.heap H locs) (hl : lv_has ls 7 [(0, .ref b), (1, .ref hx), (2, .ref hm), (3, .ref o), (4, .int (nI i))])
    (HC : ∀ (Wc2 Wr2 : va_W) (f2 : Nat → Int64) (H : Heap) (locs : List Loc) (ls : Array Slot), SIM K hx hm Wc2 Wr2 → va_P D vwCl (oU K o f2 :: (Wc2 ++ Wr2)) H → va_D (fun q : Nat => s.heap.size ≤ q) (oU K o f2 :: (Wc2 ++ Wr2)) → va_S (fun q : Nat => s.heap.size ≤ q) s.heap H locs → lv_has ls 7 [(0, .ref b), (1, .ref hx), (2, .ref hm), (3, .ref o), (4, .int (nI i))] → W p l e room_1 s m #[Value.ref b] below meth c H locs (cells + 1) (slots + 6) Q (F0 m 1512 ls [])) :
    W p l e room_1 s m #[Value.ref b] below meth c H locs cells slots Q (F0 m 679 ls []) := by
  obtain ⟨C0, hTX, hX, hbl, hL⟩ := id C
  obtain ⟨⟨hx1, hb, hml, hown, hts⟩, hK, hA, -⟩ := id C0
  obtain ⟨⟨fs1, he1⟩, ⟨fs2, he2⟩⟩ := SIM_hd hsim
  have hbA : ¬ (fun q : Nat => s.heap.size ≤ q) b := Nat.not_le.mpr hbl
  have hc0 : cells + 0 ≤ room_1.cells ∧ slots + 0 ≤ room_1.slots := ⟨show cells + 0 ≤ 601024 by omega, show slots + 0 ≤ 7293034 by omega⟩
  obtain ⟨v, Wc2, Wr2, h1, h2, hsim2⟩ := sim_blind l D hsim (xs (nI i + (1 : Int32)).toNatClampNeg)
  refine lv_aload_n hx1 hb dL_law_679 rfl (lv_at hl 1 rfl) ?_
  refine lv_aload_n hx1 hb dL_law_680 rfl (lv_at hl 0 rfl) ?_
  refine lv_iload hx1 hb dL_law_681 (lv_at hl 4 rfl) ?_
  refine lv_iconst (v := 1) hx1 hb dL_law_683 (by decide) ?_
  refine lv_iadd hx1 hb dL_law_684 ?_
  refine va_sld hx1 hb hX hbl hbA hS (li_ (j := 1) (by omega) hL) dL_law_685 ?_
  refine xq_i (wc := Wc) (wr := oU K o f :: Wr) (w1 := Wc2) (wn := oU K o f :: (Wc2 ++ Wr)) (pX _ _ _) (qX _ _ _) hP hD hS hA (va_runV (As := [.int (xs (nI i + (1 : Int32)).toNatClampNeg)]) (rest := []) C0.1 (h1 H.size) (cwV 1 hts gL_law_X10_blind rfl rfl rfl (by decide +kernel) ⟨Nat.le_of_ble_eq_true rfl, Nat.le_of_ble_eq_true rfl⟩) (yq_V C0.2 hP hD hS (pX _ _ _) 9 0 rfl he1 rfl) rfl rfl hl.1 rfl (lv_room (Nat.le_of_ble_eq_true rfl)) dL_law_686 hc0) (fun H locs hP hD hS => ?_)
  refine lv_aload_n hx1 hb dL_law_689 rfl (lv_at hl 2 rfl) ?_
  refine lv_aload_n hx1 hb dL_law_690 rfl (lv_at hl 0 rfl) ?_
  refine lv_iload hx1 hb dL_law_691 (lv_at hl 4 rfl) ?_
  refine lv_iconst (v := 1) hx1 hb dL_law_693 (by decide) ?_
  refine lv_iadd hx1 hb dL_law_694 ?_
  refine va_sld hx1 hb hX hbl hbA hS (li_ (j := 1) (by omega) hL) dL_law_695 ?_
  refine xq_i (wc := Wr) (wr := oU K o f :: Wc2) (w1 := Wr2) (wn := oU K o f :: (Wc2 ++ Wr2)) (pM _ _ _) (qM _ _ _) hP hD hS hA (va_runV (As := [.int (xs (nI i + (1 : Int32)).toNatClampNeg)]) (rest := [.int v]) C0.1 (h2 H.size) (cwV 1 hts gL_law_X11_blind rfl rfl rfl (by decide +kernel) ⟨Nat.le_of_ble_eq_true rfl, Nat.le_of_ble_eq_true rfl⟩) (yq_V C0.2 hP hD hS (pM _ _ _) 10 0 rfl he2 rfl) rfl rfl hl.1 rfl (lv_room (Nat.le_of_ble_eq_true rfl)) dL_law_696 hc0) (fun H locs hP hD hS => ?_)
  refine lv_icmp_eq (tgt := 1512) hx1 hb dL_law_699 (by decide) (fun c_ => ?_) (fun c_ => absurd rfl c_)
  refine W.widen (k := cells + 1) (n := slots + 6) (by omega) (by omega) ?_
  exact HC Wc2 Wr2 f H locs ls hsim2 hP hD hS hl
set_option maxHeartbeats 4000000 in
set_option maxRecDepth 100000 in
theorem lc_14 {p : Program} {l : Launch} {e : Env} {s : State} {m : MethodId} {below : List Frame} {meth : Method} {c : Code} {Q : State → Prop} {b L : Nat} {xs : Nat → Int32} {D : va_G} {K : Nat → ClassId} (C : LC p s m c b L xs D K) {i cells slots : Nat} (hi : i + 6 ≤ L) (hcs : cells + 1 ≤ 601024 ∧ slots + 6 ≤ 7293034) {hx hm o : Nat} {f : Nat → Int64} {Wc Wr : va_W} (hsim : SIM K hx hm Wc Wr) {H : Heap} {locs : List Loc} {ls : Array Slot} (hP : va_P D vwCl (oU K o f :: (Wc ++ Wr)) H) (hD : va_D (fun q : Nat => s.heap.size ≤ q) (oU K o f :: (Wc ++ Wr))) (hS : va_S (fun q : Nat => s.heap.size ≤ q) s.heap H locs) (hl : lv_has ls 7 [(0, .ref b), (1, .ref hx), (2, .ref hm), (3, .ref o), (4, .int (nI i))])
    (HC : ∀ (Wc2 Wr2 : va_W) (f2 : Nat → Int64) (H : Heap) (locs : List Loc) (ls : Array Slot), SIM K hx hm Wc2 Wr2 → va_P D vwCl (oU K o f2 :: (Wc2 ++ Wr2)) H → va_D (fun q : Nat => s.heap.size ≤ q) (oU K o f2 :: (Wc2 ++ Wr2)) → va_S (fun q : Nat => s.heap.size ≤ q) s.heap H locs → lv_has ls 7 [(0, .ref b), (1, .ref hx), (2, .ref hm), (3, .ref o), (4, .int (nI i))] → W p l e room_1 s m #[Value.ref b] below meth c H locs (cells + 1) (slots + 6) Q (F0 m 1512 ls [])) :
    W p l e room_1 s m #[Value.ref b] below meth c H locs cells slots Q (F0 m 704 ls []) := by
  obtain ⟨C0, hTX, hX, hbl, hL⟩ := id C
  obtain ⟨⟨hx1, hb, hml, hown, hts⟩, hK, hA, -⟩ := id C0
  obtain ⟨⟨fs1, he1⟩, ⟨fs2, he2⟩⟩ := SIM_hd hsim
  have hbA : ¬ (fun q : Nat => s.heap.size ≤ q) b := Nat.not_le.mpr hbl
  have hc0 : cells + 0 ≤ room_1.cells ∧ slots + 0 ≤ room_1.slots := ⟨show cells + 0 ≤ 601024 by omega, show slots + 0 ≤ 7293034 by omega⟩
  obtain ⟨v, Wc2, Wr2, h1, h2, hsim2⟩ := sim_doppler l D hsim (xs (nI i + (1 : Int32)).toNatClampNeg) (xs (nI i + (2 : Int32)).toNatClampNeg)
  refine lv_aload_n hx1 hb dL_law_704 rfl (lv_at hl 1 rfl) ?_
  refine lv_aload_n hx1 hb dL_law_705 rfl (lv_at hl 0 rfl) ?_
  refine lv_iload hx1 hb dL_law_706 (lv_at hl 4 rfl) ?_
  refine lv_iconst (v := 1) hx1 hb dL_law_708 (by decide) ?_
  refine lv_iadd hx1 hb dL_law_709 ?_
  refine va_sld hx1 hb hX hbl hbA hS (li_ (j := 1) (by omega) hL) dL_law_710 ?_
  refine lv_aload_n hx1 hb dL_law_711 rfl (lv_at hl 0 rfl) ?_
  refine lv_iload hx1 hb dL_law_712 (lv_at hl 4 rfl) ?_
  refine lv_iconst (v := 2) hx1 hb dL_law_714 (by decide) ?_
  refine lv_iadd hx1 hb dL_law_715 ?_
  refine va_sld hx1 hb hX hbl hbA hS (li_ (j := 2) (by omega) hL) dL_law_716 ?_
  refine xq_i (wc := Wc) (wr := oU K o f :: Wr) (w1 := Wc2) (wn := oU K o f :: (Wc2 ++ Wr)) (pX _ _ _) (qX _ _ _) hP hD hS hA (va_runV (As := [.int (xs (nI i + (1 : Int32)).toNatClampNeg), .int (xs (nI i + (2 : Int32)).toNatClampNeg)]) (rest := []) C0.1 (h1 H.size) (cwV 2 hts gL_law_X10_doppler rfl rfl rfl (by decide +kernel) ⟨Nat.le_of_ble_eq_true rfl, Nat.le_of_ble_eq_true rfl⟩) (yq_V C0.2 hP hD hS (pX _ _ _) 9 0 rfl he1 rfl) rfl rfl hl.1 rfl (lv_room (Nat.le_of_ble_eq_true rfl)) dL_law_717 hc0) (fun H locs hP hD hS => ?_)
  refine lv_aload_n hx1 hb dL_law_720 rfl (lv_at hl 2 rfl) ?_
  refine lv_aload_n hx1 hb dL_law_721 rfl (lv_at hl 0 rfl) ?_
  refine lv_iload hx1 hb dL_law_722 (lv_at hl 4 rfl) ?_
  refine lv_iconst (v := 1) hx1 hb dL_law_724 (by decide) ?_
  refine lv_iadd hx1 hb dL_law_725 ?_
  refine va_sld hx1 hb hX hbl hbA hS (li_ (j := 1) (by omega) hL) dL_law_726 ?_
  refine lv_aload_n hx1 hb dL_law_727 rfl (lv_at hl 0 rfl) ?_
  refine lv_iload hx1 hb dL_law_728 (lv_at hl 4 rfl) ?_
  refine lv_iconst (v := 2) hx1 hb dL_law_730 (by decide) ?_
  refine lv_iadd hx1 hb dL_law_731 ?_
  refine va_sld hx1 hb hX hbl hbA hS (li_ (j := 2) (by omega) hL) dL_law_732 ?_
  refine xq_i (wc := Wr) (wr := oU K o f :: Wc2) (w1 := Wr2) (wn := oU K o f :: (Wc2 ++ Wr2)) (pM _ _ _) (qM _ _ _) hP hD hS hA (va_runV (As := [.int (xs (nI i + (1 : Int32)).toNatClampNeg), .int (xs (nI i + (2 : Int32)).toNatClampNeg)]) (rest := [.int v]) C0.1 (h2 H.size) (cwV 2 hts gL_law_X11_doppler rfl rfl rfl (by decide +kernel) ⟨Nat.le_of_ble_eq_true rfl, Nat.le_of_ble_eq_true rfl⟩) (yq_V C0.2 hP hD hS (pM _ _ _) 10 0 rfl he2 rfl) rfl rfl hl.1 rfl (lv_room (Nat.le_of_ble_eq_true rfl)) dL_law_733 hc0) (fun H locs hP hD hS => ?_)
  refine lv_icmp_eq (tgt := 1512) hx1 hb dL_law_736 (by decide) (fun c_ => ?_) (fun c_ => absurd rfl c_)
  refine W.widen (k := cells + 1) (n := slots + 6) (by omega) (by omega) ?_
  exact HC Wc2 Wr2 f H locs ls hsim2 hP hD hS hl
set_option maxHeartbeats 4000000 in
set_option maxRecDepth 100000 in
theorem lc_15 {p : Program} {l : Launch} {e : Env} {s : State} {m : MethodId} {below : List Frame} {meth : Method} {c : Code} {Q : State → Prop} {b L : Nat} {xs : Nat → Int32} {D : va_G} {K : Nat → ClassId} (C : LC p s m c b L xs D K) {i cells slots : Nat} (hi : i + 6 ≤ L) (hcs : cells + 1 ≤ 601024 ∧ slots + 6 ≤ 7293034) {hx hm o : Nat} {f : Nat → Int64} {Wc Wr : va_W} (hsim : SIM K hx hm Wc Wr) {H : Heap} {locs : List Loc} {ls : Array Slot} (hP : va_P D vwCl (oU K o f :: (Wc ++ Wr)) H) (hD : va_D (fun q : Nat => s.heap.size ≤ q) (oU K o f :: (Wc ++ Wr))) (hS : va_S (fun q : Nat => s.heap.size ≤ q) s.heap H locs) (hl : lv_has ls 7 [(0, .ref b), (1, .ref hx), (2, .ref hm), (3, .ref o), (4, .int (nI i))])
    (HC : ∀ (Wc2 Wr2 : va_W) (f2 : Nat → Int64) (H : Heap) (locs : List Loc) (ls : Array Slot), SIM K hx hm Wc2 Wr2 → va_P D vwCl (oU K o f2 :: (Wc2 ++ Wr2)) H → va_D (fun q : Nat => s.heap.size ≤ q) (oU K o f2 :: (Wc2 ++ Wr2)) → va_S (fun q : Nat => s.heap.size ≤ q) s.heap H locs → lv_has ls 7 [(0, .ref b), (1, .ref hx), (2, .ref hm), (3, .ref o), (4, .int (nI i))] → W p l e room_1 s m #[Value.ref b] below meth c H locs (cells + 1) (slots + 6) Q (F0 m 1512 ls [])) :
    W p l e room_1 s m #[Value.ref b] below meth c H locs cells slots Q (F0 m 741 ls []) := by
  obtain ⟨C0, hTX, hX, hbl, hL⟩ := id C
  obtain ⟨⟨hx1, hb, hml, hown, hts⟩, hK, hA, -⟩ := id C0
  obtain ⟨⟨fs1, he1⟩, ⟨fs2, he2⟩⟩ := SIM_hd hsim
  have hbA : ¬ (fun q : Nat => s.heap.size ≤ q) b := Nat.not_le.mpr hbl
  have hc0 : cells + 0 ≤ room_1.cells ∧ slots + 0 ≤ room_1.slots := ⟨show cells + 0 ≤ 601024 by omega, show slots + 0 ≤ 7293034 by omega⟩
  obtain ⟨v, Wc2, Wr2, h1, h2, hsim2⟩ := sim_dark l D hsim (xs (nI i + (1 : Int32)).toNatClampNeg)
  refine lv_aload_n hx1 hb dL_law_741 rfl (lv_at hl 1 rfl) ?_
  refine lv_aload_n hx1 hb dL_law_742 rfl (lv_at hl 0 rfl) ?_
  refine lv_iload hx1 hb dL_law_743 (lv_at hl 4 rfl) ?_
  refine lv_iconst (v := 1) hx1 hb dL_law_745 (by decide) ?_
  refine lv_iadd hx1 hb dL_law_746 ?_
  refine va_sld hx1 hb hX hbl hbA hS (li_ (j := 1) (by omega) hL) dL_law_747 ?_
  refine xq_i (wc := Wc) (wr := oU K o f :: Wr) (w1 := Wc2) (wn := oU K o f :: (Wc2 ++ Wr)) (pX _ _ _) (qX _ _ _) hP hD hS hA (va_runV (As := [.int (xs (nI i + (1 : Int32)).toNatClampNeg)]) (rest := []) C0.1 (h1 H.size) (cwV 1 hts gL_law_X10_dark rfl rfl rfl (by decide +kernel) ⟨Nat.le_of_ble_eq_true rfl, Nat.le_of_ble_eq_true rfl⟩) (yq_V C0.2 hP hD hS (pX _ _ _) 9 0 rfl he1 rfl) rfl rfl hl.1 rfl (lv_room (Nat.le_of_ble_eq_true rfl)) dL_law_748 hc0) (fun H locs hP hD hS => ?_)
  refine lv_aload_n hx1 hb dL_law_751 rfl (lv_at hl 2 rfl) ?_
  refine lv_aload_n hx1 hb dL_law_752 rfl (lv_at hl 0 rfl) ?_
  refine lv_iload hx1 hb dL_law_753 (lv_at hl 4 rfl) ?_
  refine lv_iconst (v := 1) hx1 hb dL_law_755 (by decide) ?_
  refine lv_iadd hx1 hb dL_law_756 ?_
  refine va_sld hx1 hb hX hbl hbA hS (li_ (j := 1) (by omega) hL) dL_law_757 ?_
  refine xq_i (wc := Wr) (wr := oU K o f :: Wc2) (w1 := Wr2) (wn := oU K o f :: (Wc2 ++ Wr2)) (pM _ _ _) (qM _ _ _) hP hD hS hA (va_runV (As := [.int (xs (nI i + (1 : Int32)).toNatClampNeg)]) (rest := [.int v]) C0.1 (h2 H.size) (cwV 1 hts gL_law_X11_dark rfl rfl rfl (by decide +kernel) ⟨Nat.le_of_ble_eq_true rfl, Nat.le_of_ble_eq_true rfl⟩) (yq_V C0.2 hP hD hS (pM _ _ _) 10 0 rfl he2 rfl) rfl rfl hl.1 rfl (lv_room (Nat.le_of_ble_eq_true rfl)) dL_law_758 hc0) (fun H locs hP hD hS => ?_)
  refine lv_icmp_eq (tgt := 1512) hx1 hb dL_law_761 (by decide) (fun c_ => ?_) (fun c_ => absurd rfl c_)
  refine W.widen (k := cells + 1) (n := slots + 6) (by omega) (by omega) ?_
  exact HC Wc2 Wr2 f H locs ls hsim2 hP hD hS hl
set_option maxHeartbeats 4000000 in
set_option maxRecDepth 100000 in
theorem lc_16 {p : Program} {l : Launch} {e : Env} {s : State} {m : MethodId} {below : List Frame} {meth : Method} {c : Code} {Q : State → Prop} {b L : Nat} {xs : Nat → Int32} {D : va_G} {K : Nat → ClassId} (C : LC p s m c b L xs D K) {i cells slots : Nat} (hi : i + 6 ≤ L) (hcs : cells + 1 ≤ 601024 ∧ slots + 6 ≤ 7293034) {hx hm o : Nat} {f : Nat → Int64} {Wc Wr : va_W} (hsim : SIM K hx hm Wc Wr) {H : Heap} {locs : List Loc} {ls : Array Slot} (hP : va_P D vwCl (oU K o f :: (Wc ++ Wr)) H) (hD : va_D (fun q : Nat => s.heap.size ≤ q) (oU K o f :: (Wc ++ Wr))) (hS : va_S (fun q : Nat => s.heap.size ≤ q) s.heap H locs) (hl : lv_has ls 7 [(0, .ref b), (1, .ref hx), (2, .ref hm), (3, .ref o), (4, .int (nI i))])
    (HC : ∀ (Wc2 Wr2 : va_W) (f2 : Nat → Int64) (H : Heap) (locs : List Loc) (ls : Array Slot), SIM K hx hm Wc2 Wr2 → va_P D vwCl (oU K o f2 :: (Wc2 ++ Wr2)) H → va_D (fun q : Nat => s.heap.size ≤ q) (oU K o f2 :: (Wc2 ++ Wr2)) → va_S (fun q : Nat => s.heap.size ≤ q) s.heap H locs → lv_has ls 7 [(0, .ref b), (1, .ref hx), (2, .ref hm), (3, .ref o), (4, .int (nI i))] → W p l e room_1 s m #[Value.ref b] below meth c H locs (cells + 1) (slots + 6) Q (F0 m 1512 ls [])) :
    W p l e room_1 s m #[Value.ref b] below meth c H locs cells slots Q (F0 m 766 ls []) := by
  obtain ⟨C0, hTX, hX, hbl, hL⟩ := id C
  obtain ⟨⟨hx1, hb, hml, hown, hts⟩, hK, hA, -⟩ := id C0
  obtain ⟨⟨fs1, he1⟩, ⟨fs2, he2⟩⟩ := SIM_hd hsim
  have hbA : ¬ (fun q : Nat => s.heap.size ≤ q) b := Nat.not_le.mpr hbl
  have hc0 : cells + 0 ≤ room_1.cells ∧ slots + 0 ≤ room_1.slots := ⟨show cells + 0 ≤ 601024 by omega, show slots + 0 ≤ 7293034 by omega⟩
  obtain ⟨v, Wc2, Wr2, h1, h2, hsim2⟩ := sim_period l D hsim 
  refine lv_aload_n hx1 hb dL_law_766 rfl (lv_at hl 1 rfl) ?_
  refine xq_i (wc := Wc) (wr := oU K o f :: Wr) (w1 := Wc2) (wn := oU K o f :: (Wc2 ++ Wr)) (pX _ _ _) (qX _ _ _) hP hD hS hA (va_runV (As := []) (rest := []) C0.1 (h1 H.size) (cwV 0 hts gL_law_X10_period rfl rfl rfl (by decide +kernel) ⟨Nat.le_of_ble_eq_true rfl, Nat.le_of_ble_eq_true rfl⟩) (yq_V C0.2 hP hD hS (pX _ _ _) 9 0 rfl he1 rfl) rfl rfl hl.1 rfl (lv_room (Nat.le_of_ble_eq_true rfl)) dL_law_767 hc0) (fun H locs hP hD hS => ?_)
  refine lv_aload_n hx1 hb dL_law_770 rfl (lv_at hl 2 rfl) ?_
  refine xq_i (wc := Wr) (wr := oU K o f :: Wc2) (w1 := Wr2) (wn := oU K o f :: (Wc2 ++ Wr2)) (pM _ _ _) (qM _ _ _) hP hD hS hA (va_runV (As := []) (rest := [.int v]) C0.1 (h2 H.size) (cwV 0 hts gL_law_X11_period rfl rfl rfl (by decide +kernel) ⟨Nat.le_of_ble_eq_true rfl, Nat.le_of_ble_eq_true rfl⟩) (yq_V C0.2 hP hD hS (pM _ _ _) 10 0 rfl he2 rfl) rfl rfl hl.1 rfl (lv_room (Nat.le_of_ble_eq_true rfl)) dL_law_771 hc0) (fun H locs hP hD hS => ?_)
  refine lv_icmp_eq (tgt := 1512) hx1 hb dL_law_774 (by decide) (fun c_ => ?_) (fun c_ => absurd rfl c_)
  refine W.widen (k := cells + 1) (n := slots + 6) (by omega) (by omega) ?_
  exact HC Wc2 Wr2 f H locs ls hsim2 hP hD hS hl
set_option maxHeartbeats 4000000 in
set_option maxRecDepth 100000 in
theorem lc_17 {p : Program} {l : Launch} {e : Env} {s : State} {m : MethodId} {below : List Frame} {meth : Method} {c : Code} {Q : State → Prop} {b L : Nat} {xs : Nat → Int32} {D : va_G} {K : Nat → ClassId} (C : LC p s m c b L xs D K) {i cells slots : Nat} (hi : i + 6 ≤ L) (hcs : cells + 1 ≤ 601024 ∧ slots + 6 ≤ 7293034) {hx hm o : Nat} {f : Nat → Int64} {Wc Wr : va_W} (hsim : SIM K hx hm Wc Wr) {H : Heap} {locs : List Loc} {ls : Array Slot} (hP : va_P D vwCl (oU K o f :: (Wc ++ Wr)) H) (hD : va_D (fun q : Nat => s.heap.size ≤ q) (oU K o f :: (Wc ++ Wr))) (hS : va_S (fun q : Nat => s.heap.size ≤ q) s.heap H locs) (hl : lv_has ls 7 [(0, .ref b), (1, .ref hx), (2, .ref hm), (3, .ref o), (4, .int (nI i))])
    (HC : ∀ (Wc2 Wr2 : va_W) (f2 : Nat → Int64) (H : Heap) (locs : List Loc) (ls : Array Slot), SIM K hx hm Wc2 Wr2 → va_P D vwCl (oU K o f2 :: (Wc2 ++ Wr2)) H → va_D (fun q : Nat => s.heap.size ≤ q) (oU K o f2 :: (Wc2 ++ Wr2)) → va_S (fun q : Nat => s.heap.size ≤ q) s.heap H locs → lv_has ls 7 [(0, .ref b), (1, .ref hx), (2, .ref hm), (3, .ref o), (4, .int (nI i))] → W p l e room_1 s m #[Value.ref b] below meth c H locs (cells + 1) (slots + 6) Q (F0 m 1512 ls [])) :
    W p l e room_1 s m #[Value.ref b] below meth c H locs cells slots Q (F0 m 779 ls []) := by
  obtain ⟨C0, hTX, hX, hbl, hL⟩ := id C
  obtain ⟨⟨hx1, hb, hml, hown, hts⟩, hK, hA, -⟩ := id C0
  obtain ⟨⟨fs1, he1⟩, ⟨fs2, he2⟩⟩ := SIM_hd hsim
  have hbA : ¬ (fun q : Nat => s.heap.size ≤ q) b := Nat.not_le.mpr hbl
  have hc0 : cells + 0 ≤ room_1.cells ∧ slots + 0 ≤ room_1.slots := ⟨show cells + 0 ≤ 601024 by omega, show slots + 0 ≤ 7293034 by omega⟩
  obtain ⟨v, Wc2, Wr2, h1, h2, hsim2⟩ := sim_reach l D hsim (xs (nI i + (1 : Int32)).toNatClampNeg) (xs (nI i + (2 : Int32)).toNatClampNeg)
  refine lv_aload_n hx1 hb dL_law_779 rfl (lv_at hl 1 rfl) ?_
  refine lv_aload_n hx1 hb dL_law_780 rfl (lv_at hl 0 rfl) ?_
  refine lv_iload hx1 hb dL_law_781 (lv_at hl 4 rfl) ?_
  refine lv_iconst (v := 1) hx1 hb dL_law_783 (by decide) ?_
  refine lv_iadd hx1 hb dL_law_784 ?_
  refine va_sld hx1 hb hX hbl hbA hS (li_ (j := 1) (by omega) hL) dL_law_785 ?_
  refine lv_aload_n hx1 hb dL_law_786 rfl (lv_at hl 0 rfl) ?_
  refine lv_iload hx1 hb dL_law_787 (lv_at hl 4 rfl) ?_
  refine lv_iconst (v := 2) hx1 hb dL_law_789 (by decide) ?_
  refine lv_iadd hx1 hb dL_law_790 ?_
  refine va_sld hx1 hb hX hbl hbA hS (li_ (j := 2) (by omega) hL) dL_law_791 ?_
  refine xq_i (wc := Wc) (wr := oU K o f :: Wr) (w1 := Wc2) (wn := oU K o f :: (Wc2 ++ Wr)) (pX _ _ _) (qX _ _ _) hP hD hS hA (va_runV (As := [.int (xs (nI i + (1 : Int32)).toNatClampNeg), .int (xs (nI i + (2 : Int32)).toNatClampNeg)]) (rest := []) C0.1 (h1 H.size) (cwV 2 hts gL_law_X10_reach rfl rfl rfl (by decide +kernel) ⟨Nat.le_of_ble_eq_true rfl, Nat.le_of_ble_eq_true rfl⟩) (yq_V C0.2 hP hD hS (pX _ _ _) 9 0 rfl he1 rfl) rfl rfl hl.1 rfl (lv_room (Nat.le_of_ble_eq_true rfl)) dL_law_792 hc0) (fun H locs hP hD hS => ?_)
  refine lv_aload_n hx1 hb dL_law_795 rfl (lv_at hl 2 rfl) ?_
  refine lv_aload_n hx1 hb dL_law_796 rfl (lv_at hl 0 rfl) ?_
  refine lv_iload hx1 hb dL_law_797 (lv_at hl 4 rfl) ?_
  refine lv_iconst (v := 1) hx1 hb dL_law_799 (by decide) ?_
  refine lv_iadd hx1 hb dL_law_800 ?_
  refine va_sld hx1 hb hX hbl hbA hS (li_ (j := 1) (by omega) hL) dL_law_801 ?_
  refine lv_aload_n hx1 hb dL_law_802 rfl (lv_at hl 0 rfl) ?_
  refine lv_iload hx1 hb dL_law_803 (lv_at hl 4 rfl) ?_
  refine lv_iconst (v := 2) hx1 hb dL_law_805 (by decide) ?_
  refine lv_iadd hx1 hb dL_law_806 ?_
  refine va_sld hx1 hb hX hbl hbA hS (li_ (j := 2) (by omega) hL) dL_law_807 ?_
  refine xq_i (wc := Wr) (wr := oU K o f :: Wc2) (w1 := Wr2) (wn := oU K o f :: (Wc2 ++ Wr2)) (pM _ _ _) (qM _ _ _) hP hD hS hA (va_runV (As := [.int (xs (nI i + (1 : Int32)).toNatClampNeg), .int (xs (nI i + (2 : Int32)).toNatClampNeg)]) (rest := [.int v]) C0.1 (h2 H.size) (cwV 2 hts gL_law_X11_reach rfl rfl rfl (by decide +kernel) ⟨Nat.le_of_ble_eq_true rfl, Nat.le_of_ble_eq_true rfl⟩) (yq_V C0.2 hP hD hS (pM _ _ _) 10 0 rfl he2 rfl) rfl rfl hl.1 rfl (lv_room (Nat.le_of_ble_eq_true rfl)) dL_law_808 hc0) (fun H locs hP hD hS => ?_)
  refine lv_icmp_eq (tgt := 1512) hx1 hb dL_law_811 (by decide) (fun c_ => ?_) (fun c_ => absurd rfl c_)
  refine W.widen (k := cells + 1) (n := slots + 6) (by omega) (by omega) ?_
  exact HC Wc2 Wr2 f H locs ls hsim2 hP hD hS hl
set_option maxHeartbeats 4000000 in
set_option maxRecDepth 100000 in
theorem lc_18 {p : Program} {l : Launch} {e : Env} {s : State} {m : MethodId} {below : List Frame} {meth : Method} {c : Code} {Q : State → Prop} {b L : Nat} {xs : Nat → Int32} {D : va_G} {K : Nat → ClassId} (C : LC p s m c b L xs D K) {i cells slots : Nat} (hi : i + 6 ≤ L) (hcs : cells + 1 ≤ 601024 ∧ slots + 6 ≤ 7293034) {hx hm o : Nat} {f : Nat → Int64} {Wc Wr : va_W} (hsim : SIM K hx hm Wc Wr) {H : Heap} {locs : List Loc} {ls : Array Slot} (hP : va_P D vwCl (oU K o f :: (Wc ++ Wr)) H) (hD : va_D (fun q : Nat => s.heap.size ≤ q) (oU K o f :: (Wc ++ Wr))) (hS : va_S (fun q : Nat => s.heap.size ≤ q) s.heap H locs) (hl : lv_has ls 7 [(0, .ref b), (1, .ref hx), (2, .ref hm), (3, .ref o), (4, .int (nI i))])
    (HC : ∀ (Wc2 Wr2 : va_W) (f2 : Nat → Int64) (H : Heap) (locs : List Loc) (ls : Array Slot), SIM K hx hm Wc2 Wr2 → va_P D vwCl (oU K o f2 :: (Wc2 ++ Wr2)) H → va_D (fun q : Nat => s.heap.size ≤ q) (oU K o f2 :: (Wc2 ++ Wr2)) → va_S (fun q : Nat => s.heap.size ≤ q) s.heap H locs → lv_has ls 7 [(0, .ref b), (1, .ref hx), (2, .ref hm), (3, .ref o), (4, .int (nI i))] → W p l e room_1 s m #[Value.ref b] below meth c H locs (cells + 1) (slots + 6) Q (F0 m 1512 ls [])) :
    W p l e room_1 s m #[Value.ref b] below meth c H locs cells slots Q (F0 m 816 ls []) := by
  obtain ⟨C0, hTX, hX, hbl, hL⟩ := id C
  obtain ⟨⟨hx1, hb, hml, hown, hts⟩, hK, hA, -⟩ := id C0
  obtain ⟨⟨fs1, he1⟩, ⟨fs2, he2⟩⟩ := SIM_hd hsim
  have hbA : ¬ (fun q : Nat => s.heap.size ≤ q) b := Nat.not_le.mpr hbl
  have hc0 : cells + 0 ≤ room_1.cells ∧ slots + 0 ≤ room_1.slots := ⟨show cells + 0 ≤ 601024 by omega, show slots + 0 ≤ 7293034 by omega⟩
  obtain ⟨v, Wc2, Wr2, h1, h2, hsim2⟩ := sim_joined l D hsim (xs (nI i + (1 : Int32)).toNatClampNeg) (xs (nI i + (2 : Int32)).toNatClampNeg) (xs (nI i + (3 : Int32)).toNatClampNeg) (xs (nI i + (4 : Int32)).toNatClampNeg) (xs (nI i + (5 : Int32)).toNatClampNeg)
  refine lv_aload_n hx1 hb dL_law_816 rfl (lv_at hl 1 rfl) ?_
  refine lv_aload_n hx1 hb dL_law_817 rfl (lv_at hl 0 rfl) ?_
  refine lv_iload hx1 hb dL_law_818 (lv_at hl 4 rfl) ?_
  refine lv_iconst (v := 1) hx1 hb dL_law_820 (by decide) ?_
  refine lv_iadd hx1 hb dL_law_821 ?_
  refine va_sld hx1 hb hX hbl hbA hS (li_ (j := 1) (by omega) hL) dL_law_822 ?_
  refine lv_aload_n hx1 hb dL_law_823 rfl (lv_at hl 0 rfl) ?_
  refine lv_iload hx1 hb dL_law_824 (lv_at hl 4 rfl) ?_
  refine lv_iconst (v := 2) hx1 hb dL_law_826 (by decide) ?_
  refine lv_iadd hx1 hb dL_law_827 ?_
  refine va_sld hx1 hb hX hbl hbA hS (li_ (j := 2) (by omega) hL) dL_law_828 ?_
  refine lv_aload_n hx1 hb dL_law_829 rfl (lv_at hl 0 rfl) ?_
  refine lv_iload hx1 hb dL_law_830 (lv_at hl 4 rfl) ?_
  refine lv_iconst (v := 3) hx1 hb dL_law_832 (by decide) ?_
  refine lv_iadd hx1 hb dL_law_833 ?_
  refine va_sld hx1 hb hX hbl hbA hS (li_ (j := 3) (by omega) hL) dL_law_834 ?_
  refine lv_aload_n hx1 hb dL_law_835 rfl (lv_at hl 0 rfl) ?_
  refine lv_iload hx1 hb dL_law_836 (lv_at hl 4 rfl) ?_
  refine lv_iconst (v := 4) hx1 hb dL_law_838 (by decide) ?_
  refine lv_iadd hx1 hb dL_law_839 ?_
  refine va_sld hx1 hb hX hbl hbA hS (li_ (j := 4) (by omega) hL) dL_law_840 ?_
  refine lv_aload_n hx1 hb dL_law_841 rfl (lv_at hl 0 rfl) ?_
  refine lv_iload hx1 hb dL_law_842 (lv_at hl 4 rfl) ?_
  refine lv_iconst (v := 5) hx1 hb dL_law_844 (by decide) ?_
  refine lv_iadd hx1 hb dL_law_845 ?_
  refine va_sld hx1 hb hX hbl hbA hS (li_ (j := 5) (by omega) hL) dL_law_846 ?_
  refine xq_i (wc := Wc) (wr := oU K o f :: Wr) (w1 := Wc2) (wn := oU K o f :: (Wc2 ++ Wr)) (pX _ _ _) (qX _ _ _) hP hD hS hA (va_runV (As := [.int (xs (nI i + (1 : Int32)).toNatClampNeg), .int (xs (nI i + (2 : Int32)).toNatClampNeg), .int (xs (nI i + (3 : Int32)).toNatClampNeg), .int (xs (nI i + (4 : Int32)).toNatClampNeg), .int (xs (nI i + (5 : Int32)).toNatClampNeg)]) (rest := []) C0.1 (h1 H.size) (cwV 5 hts gL_law_X10_joined rfl rfl rfl (by decide +kernel) ⟨Nat.le_of_ble_eq_true rfl, Nat.le_of_ble_eq_true rfl⟩) (yq_V C0.2 hP hD hS (pX _ _ _) 9 0 rfl he1 rfl) rfl rfl hl.1 rfl (lv_room (Nat.le_of_ble_eq_true rfl)) dL_law_847 hc0) (fun H locs hP hD hS => ?_)
  refine lv_aload_n hx1 hb dL_law_850 rfl (lv_at hl 2 rfl) ?_
  refine lv_aload_n hx1 hb dL_law_851 rfl (lv_at hl 0 rfl) ?_
  refine lv_iload hx1 hb dL_law_852 (lv_at hl 4 rfl) ?_
  refine lv_iconst (v := 1) hx1 hb dL_law_854 (by decide) ?_
  refine lv_iadd hx1 hb dL_law_855 ?_
  refine va_sld hx1 hb hX hbl hbA hS (li_ (j := 1) (by omega) hL) dL_law_856 ?_
  refine lv_aload_n hx1 hb dL_law_857 rfl (lv_at hl 0 rfl) ?_
  refine lv_iload hx1 hb dL_law_858 (lv_at hl 4 rfl) ?_
  refine lv_iconst (v := 2) hx1 hb dL_law_860 (by decide) ?_
  refine lv_iadd hx1 hb dL_law_861 ?_
  refine va_sld hx1 hb hX hbl hbA hS (li_ (j := 2) (by omega) hL) dL_law_862 ?_
  refine lv_aload_n hx1 hb dL_law_863 rfl (lv_at hl 0 rfl) ?_
  refine lv_iload hx1 hb dL_law_864 (lv_at hl 4 rfl) ?_
  refine lv_iconst (v := 3) hx1 hb dL_law_866 (by decide) ?_
  refine lv_iadd hx1 hb dL_law_867 ?_
  refine va_sld hx1 hb hX hbl hbA hS (li_ (j := 3) (by omega) hL) dL_law_868 ?_
  refine lv_aload_n hx1 hb dL_law_869 rfl (lv_at hl 0 rfl) ?_
  refine lv_iload hx1 hb dL_law_870 (lv_at hl 4 rfl) ?_
  refine lv_iconst (v := 4) hx1 hb dL_law_872 (by decide) ?_
  refine lv_iadd hx1 hb dL_law_873 ?_
  refine va_sld hx1 hb hX hbl hbA hS (li_ (j := 4) (by omega) hL) dL_law_874 ?_
  refine lv_aload_n hx1 hb dL_law_875 rfl (lv_at hl 0 rfl) ?_
  refine lv_iload hx1 hb dL_law_876 (lv_at hl 4 rfl) ?_
  refine lv_iconst (v := 5) hx1 hb dL_law_878 (by decide) ?_
  refine lv_iadd hx1 hb dL_law_879 ?_
  refine va_sld hx1 hb hX hbl hbA hS (li_ (j := 5) (by omega) hL) dL_law_880 ?_
  refine xq_i (wc := Wr) (wr := oU K o f :: Wc2) (w1 := Wr2) (wn := oU K o f :: (Wc2 ++ Wr2)) (pM _ _ _) (qM _ _ _) hP hD hS hA (va_runV (As := [.int (xs (nI i + (1 : Int32)).toNatClampNeg), .int (xs (nI i + (2 : Int32)).toNatClampNeg), .int (xs (nI i + (3 : Int32)).toNatClampNeg), .int (xs (nI i + (4 : Int32)).toNatClampNeg), .int (xs (nI i + (5 : Int32)).toNatClampNeg)]) (rest := [.int v]) C0.1 (h2 H.size) (cwV 5 hts gL_law_X11_joined rfl rfl rfl (by decide +kernel) ⟨Nat.le_of_ble_eq_true rfl, Nat.le_of_ble_eq_true rfl⟩) (yq_V C0.2 hP hD hS (pM _ _ _) 10 0 rfl he2 rfl) rfl rfl hl.1 rfl (lv_room (Nat.le_of_ble_eq_true rfl)) dL_law_881 hc0) (fun H locs hP hD hS => ?_)
  refine lv_icmp_eq (tgt := 1512) hx1 hb dL_law_884 (by decide) (fun c_ => ?_) (fun c_ => absurd rfl c_)
  refine W.widen (k := cells + 1) (n := slots + 6) (by omega) (by omega) ?_
  exact HC Wc2 Wr2 f H locs ls hsim2 hP hD hS hl
set_option maxHeartbeats 4000000 in
set_option maxRecDepth 100000 in
theorem lc_19 {p : Program} {l : Launch} {e : Env} {s : State} {m : MethodId} {below : List Frame} {meth : Method} {c : Code} {Q : State → Prop} {b L : Nat} {xs : Nat → Int32} {D : va_G} {K : Nat → ClassId} (C : LC p s m c b L xs D K) {i cells slots : Nat} (hi : i + 6 ≤ L) (hcs : cells + 1 ≤ 601024 ∧ slots + 6 ≤ 7293034) {hx hm o : Nat} {f : Nat → Int64} {Wc Wr : va_W} (hsim : SIM K hx hm Wc Wr) {H : Heap} {locs : List Loc} {ls : Array Slot} (hP : va_P D vwCl (oU K o f :: (Wc ++ Wr)) H) (hD : va_D (fun q : Nat => s.heap.size ≤ q) (oU K o f :: (Wc ++ Wr))) (hS : va_S (fun q : Nat => s.heap.size ≤ q) s.heap H locs) (hl : lv_has ls 7 [(0, .ref b), (1, .ref hx), (2, .ref hm), (3, .ref o), (4, .int (nI i))])
    (HC : ∀ (Wc2 Wr2 : va_W) (f2 : Nat → Int64) (H : Heap) (locs : List Loc) (ls : Array Slot), SIM K hx hm Wc2 Wr2 → va_P D vwCl (oU K o f2 :: (Wc2 ++ Wr2)) H → va_D (fun q : Nat => s.heap.size ≤ q) (oU K o f2 :: (Wc2 ++ Wr2)) → va_S (fun q : Nat => s.heap.size ≤ q) s.heap H locs → lv_has ls 7 [(0, .ref b), (1, .ref hx), (2, .ref hm), (3, .ref o), (4, .int (nI i))] → W p l e room_1 s m #[Value.ref b] below meth c H locs (cells + 1) (slots + 6) Q (F0 m 1512 ls [])) :
    W p l e room_1 s m #[Value.ref b] below meth c H locs cells slots Q (F0 m 889 ls []) := by
  obtain ⟨C0, hTX, hX, hbl, hL⟩ := id C
  obtain ⟨⟨hx1, hb, hml, hown, hts⟩, hK, hA, -⟩ := id C0
  obtain ⟨⟨fs1, he1⟩, ⟨fs2, he2⟩⟩ := SIM_hd hsim
  have hbA : ¬ (fun q : Nat => s.heap.size ≤ q) b := Nat.not_le.mpr hbl
  have hc0 : cells + 0 ≤ room_1.cells ∧ slots + 0 ≤ room_1.slots := ⟨show cells + 0 ≤ 601024 by omega, show slots + 0 ≤ 7293034 by omega⟩
  obtain ⟨v, Wc2, Wr2, h1, h2, hsim2⟩ := sim_at l D hsim (xs (nI i + (1 : Int32)).toNatClampNeg) (xs (nI i + (2 : Int32)).toNatClampNeg) (bz (xs (nI i + (3 : Int32)).toNatClampNeg))
  refine lv_aload_n hx1 hb dL_law_889 rfl (lv_at hl 1 rfl) ?_
  refine lv_aload_n hx1 hb dL_law_890 rfl (lv_at hl 0 rfl) ?_
  refine lv_iload hx1 hb dL_law_891 (lv_at hl 4 rfl) ?_
  refine lv_iconst (v := 1) hx1 hb dL_law_893 (by decide) ?_
  refine lv_iadd hx1 hb dL_law_894 ?_
  refine va_sld hx1 hb hX hbl hbA hS (li_ (j := 1) (by omega) hL) dL_law_895 ?_
  refine lv_aload_n hx1 hb dL_law_896 rfl (lv_at hl 0 rfl) ?_
  refine lv_iload hx1 hb dL_law_897 (lv_at hl 4 rfl) ?_
  refine lv_iconst (v := 2) hx1 hb dL_law_899 (by decide) ?_
  refine lv_iadd hx1 hb dL_law_900 ?_
  refine va_sld hx1 hb hX hbl hbA hS (li_ (j := 2) (by omega) hL) dL_law_901 ?_
  refine lv_aload_n hx1 hb dL_law_902 rfl (lv_at hl 0 rfl) ?_
  refine lv_iload hx1 hb dL_law_903 (lv_at hl 4 rfl) ?_
  refine lv_iconst (v := 3) hx1 hb dL_law_905 (by decide) ?_
  refine lv_iadd hx1 hb dL_law_906 ?_
  refine va_sld hx1 hb hX hbl hbA hS (li_ (j := 3) (by omega) hL) dL_law_907 ?_
  refine lw_b hx1 hb dL_law_908 dL_law_911 dL_law_912 dL_law_915 ?_
  refine xq_i (wc := Wc) (wr := oU K o f :: Wr) (w1 := Wc2) (wn := oU K o f :: (Wc2 ++ Wr)) (pX _ _ _) (qX _ _ _) hP hD hS hA (va_runV (As := [.int (xs (nI i + (1 : Int32)).toNatClampNeg), .int (xs (nI i + (2 : Int32)).toNatClampNeg), .int (bz (xs (nI i + (3 : Int32)).toNatClampNeg))]) (rest := []) C0.1 (h1 H.size) (cwV 3 hts gL_law_X10_at rfl rfl rfl (by decide +kernel) ⟨Nat.le_of_ble_eq_true rfl, Nat.le_of_ble_eq_true rfl⟩) (yq_V C0.2 hP hD hS (pX _ _ _) 9 0 rfl he1 rfl) rfl rfl hl.1 rfl (lv_room (Nat.le_of_ble_eq_true rfl)) dL_law_916 hc0) (fun H locs hP hD hS => ?_)
  refine lv_aload_n hx1 hb dL_law_919 rfl (lv_at hl 2 rfl) ?_
  refine lv_aload_n hx1 hb dL_law_920 rfl (lv_at hl 0 rfl) ?_
  refine lv_iload hx1 hb dL_law_921 (lv_at hl 4 rfl) ?_
  refine lv_iconst (v := 1) hx1 hb dL_law_923 (by decide) ?_
  refine lv_iadd hx1 hb dL_law_924 ?_
  refine va_sld hx1 hb hX hbl hbA hS (li_ (j := 1) (by omega) hL) dL_law_925 ?_
  refine lv_aload_n hx1 hb dL_law_926 rfl (lv_at hl 0 rfl) ?_
  refine lv_iload hx1 hb dL_law_927 (lv_at hl 4 rfl) ?_
  refine lv_iconst (v := 2) hx1 hb dL_law_929 (by decide) ?_
  refine lv_iadd hx1 hb dL_law_930 ?_
  refine va_sld hx1 hb hX hbl hbA hS (li_ (j := 2) (by omega) hL) dL_law_931 ?_
  refine lv_aload_n hx1 hb dL_law_932 rfl (lv_at hl 0 rfl) ?_
  refine lv_iload hx1 hb dL_law_933 (lv_at hl 4 rfl) ?_
  refine lv_iconst (v := 3) hx1 hb dL_law_935 (by decide) ?_
  refine lv_iadd hx1 hb dL_law_936 ?_
  refine va_sld hx1 hb hX hbl hbA hS (li_ (j := 3) (by omega) hL) dL_law_937 ?_
  refine lw_b hx1 hb dL_law_938 dL_law_941 dL_law_942 dL_law_945 ?_
  refine xq_i (wc := Wr) (wr := oU K o f :: Wc2) (w1 := Wr2) (wn := oU K o f :: (Wc2 ++ Wr2)) (pM _ _ _) (qM _ _ _) hP hD hS hA (va_runV (As := [.int (xs (nI i + (1 : Int32)).toNatClampNeg), .int (xs (nI i + (2 : Int32)).toNatClampNeg), .int (bz (xs (nI i + (3 : Int32)).toNatClampNeg))]) (rest := [.int v]) C0.1 (h2 H.size) (cwV 3 hts gL_law_X11_at rfl rfl rfl (by decide +kernel) ⟨Nat.le_of_ble_eq_true rfl, Nat.le_of_ble_eq_true rfl⟩) (yq_V C0.2 hP hD hS (pM _ _ _) 10 0 rfl he2 rfl) rfl rfl hl.1 rfl (lv_room (Nat.le_of_ble_eq_true rfl)) dL_law_946 hc0) (fun H locs hP hD hS => ?_)
  refine lv_icmp_eq (tgt := 1512) hx1 hb dL_law_949 (by decide) (fun c_ => ?_) (fun c_ => absurd rfl c_)
  refine W.widen (k := cells + 1) (n := slots + 6) (by omega) (by omega) ?_
  exact HC Wc2 Wr2 f H locs ls hsim2 hP hD hS hl
set_option maxHeartbeats 4000000 in
set_option maxRecDepth 100000 in
theorem lc_20 {p : Program} {l : Launch} {e : Env} {s : State} {m : MethodId} {below : List Frame} {meth : Method} {c : Code} {Q : State → Prop} {b L : Nat} {xs : Nat → Int32} {D : va_G} {K : Nat → ClassId} (C : LC p s m c b L xs D K) {i cells slots : Nat} (hi : i + 6 ≤ L) (hcs : cells + 1 ≤ 601024 ∧ slots + 6 ≤ 7293034) {hx hm o : Nat} {f : Nat → Int64} {Wc Wr : va_W} (hsim : SIM K hx hm Wc Wr) {H : Heap} {locs : List Loc} {ls : Array Slot} (hP : va_P D vwCl (oU K o f :: (Wc ++ Wr)) H) (hD : va_D (fun q : Nat => s.heap.size ≤ q) (oU K o f :: (Wc ++ Wr))) (hS : va_S (fun q : Nat => s.heap.size ≤ q) s.heap H locs) (hl : lv_has ls 7 [(0, .ref b), (1, .ref hx), (2, .ref hm), (3, .ref o), (4, .int (nI i))])
    (HC : ∀ (Wc2 Wr2 : va_W) (f2 : Nat → Int64) (H : Heap) (locs : List Loc) (ls : Array Slot), SIM K hx hm Wc2 Wr2 → va_P D vwCl (oU K o f2 :: (Wc2 ++ Wr2)) H → va_D (fun q : Nat => s.heap.size ≤ q) (oU K o f2 :: (Wc2 ++ Wr2)) → va_S (fun q : Nat => s.heap.size ≤ q) s.heap H locs → lv_has ls 7 [(0, .ref b), (1, .ref hx), (2, .ref hm), (3, .ref o), (4, .int (nI i))] → W p l e room_1 s m #[Value.ref b] below meth c H locs (cells + 1) (slots + 6) Q (F0 m 1512 ls [])) :
    W p l e room_1 s m #[Value.ref b] below meth c H locs cells slots Q (F0 m 954 ls []) := by
  obtain ⟨C0, hTX, hX, hbl, hL⟩ := id C
  obtain ⟨⟨hx1, hb, hml, hown, hts⟩, hK, hA, -⟩ := id C0
  obtain ⟨⟨fs1, he1⟩, ⟨fs2, he2⟩⟩ := SIM_hd hsim
  have hbA : ¬ (fun q : Nat => s.heap.size ≤ q) b := Nat.not_le.mpr hbl
  have hc0 : cells + 0 ≤ room_1.cells ∧ slots + 0 ≤ room_1.slots := ⟨show cells + 0 ≤ 601024 by omega, show slots + 0 ≤ 7293034 by omega⟩
  obtain ⟨v, Wc2, Wr2, h1, h2, hsim2⟩ := sim_hits l D hsim (xs (nI i + (1 : Int32)).toNatClampNeg)
  refine lv_aload_n hx1 hb dL_law_954 rfl (lv_at hl 1 rfl) ?_
  refine lv_aload_n hx1 hb dL_law_955 rfl (lv_at hl 0 rfl) ?_
  refine lv_iload hx1 hb dL_law_956 (lv_at hl 4 rfl) ?_
  refine lv_iconst (v := 1) hx1 hb dL_law_958 (by decide) ?_
  refine lv_iadd hx1 hb dL_law_959 ?_
  refine va_sld hx1 hb hX hbl hbA hS (li_ (j := 1) (by omega) hL) dL_law_960 ?_
  refine xq_i (wc := Wc) (wr := oU K o f :: Wr) (w1 := Wc2) (wn := oU K o f :: (Wc2 ++ Wr)) (pX _ _ _) (qX _ _ _) hP hD hS hA (va_runV (As := [.int (xs (nI i + (1 : Int32)).toNatClampNeg)]) (rest := []) C0.1 (h1 H.size) (cwV 1 hts gL_law_X10_hits rfl rfl rfl (by decide +kernel) ⟨Nat.le_of_ble_eq_true rfl, Nat.le_of_ble_eq_true rfl⟩) (yq_V C0.2 hP hD hS (pX _ _ _) 9 0 rfl he1 rfl) rfl rfl hl.1 rfl (lv_room (Nat.le_of_ble_eq_true rfl)) dL_law_961 hc0) (fun H locs hP hD hS => ?_)
  refine lv_aload_n hx1 hb dL_law_964 rfl (lv_at hl 2 rfl) ?_
  refine lv_aload_n hx1 hb dL_law_965 rfl (lv_at hl 0 rfl) ?_
  refine lv_iload hx1 hb dL_law_966 (lv_at hl 4 rfl) ?_
  refine lv_iconst (v := 1) hx1 hb dL_law_968 (by decide) ?_
  refine lv_iadd hx1 hb dL_law_969 ?_
  refine va_sld hx1 hb hX hbl hbA hS (li_ (j := 1) (by omega) hL) dL_law_970 ?_
  refine xq_i (wc := Wr) (wr := oU K o f :: Wc2) (w1 := Wr2) (wn := oU K o f :: (Wc2 ++ Wr2)) (pM _ _ _) (qM _ _ _) hP hD hS hA (va_runV (As := [.int (xs (nI i + (1 : Int32)).toNatClampNeg)]) (rest := [.int v]) C0.1 (h2 H.size) (cwV 1 hts gL_law_X11_hits rfl rfl rfl (by decide +kernel) ⟨Nat.le_of_ble_eq_true rfl, Nat.le_of_ble_eq_true rfl⟩) (yq_V C0.2 hP hD hS (pM _ _ _) 10 0 rfl he2 rfl) rfl rfl hl.1 rfl (lv_room (Nat.le_of_ble_eq_true rfl)) dL_law_971 hc0) (fun H locs hP hD hS => ?_)
  refine lv_icmp_eq (tgt := 1512) hx1 hb dL_law_974 (by decide) (fun c_ => ?_) (fun c_ => absurd rfl c_)
  refine W.widen (k := cells + 1) (n := slots + 6) (by omega) (by omega) ?_
  exact HC Wc2 Wr2 f H locs ls hsim2 hP hD hS hl
set_option maxHeartbeats 4000000 in
set_option maxRecDepth 100000 in
theorem lc_21 {p : Program} {l : Launch} {e : Env} {s : State} {m : MethodId} {below : List Frame} {meth : Method} {c : Code} {Q : State → Prop} {b L : Nat} {xs : Nat → Int32} {D : va_G} {K : Nat → ClassId} (C : LC p s m c b L xs D K) {i cells slots : Nat} (hi : i + 6 ≤ L) (hcs : cells + 1 ≤ 601024 ∧ slots + 6 ≤ 7293034) {hx hm o : Nat} {f : Nat → Int64} {Wc Wr : va_W} (hsim : SIM K hx hm Wc Wr) {H : Heap} {locs : List Loc} {ls : Array Slot} (hP : va_P D vwCl (oU K o f :: (Wc ++ Wr)) H) (hD : va_D (fun q : Nat => s.heap.size ≤ q) (oU K o f :: (Wc ++ Wr))) (hS : va_S (fun q : Nat => s.heap.size ≤ q) s.heap H locs) (hl : lv_has ls 7 [(0, .ref b), (1, .ref hx), (2, .ref hm), (3, .ref o), (4, .int (nI i))])
    (HC : ∀ (Wc2 Wr2 : va_W) (f2 : Nat → Int64) (H : Heap) (locs : List Loc) (ls : Array Slot), SIM K hx hm Wc2 Wr2 → va_P D vwCl (oU K o f2 :: (Wc2 ++ Wr2)) H → va_D (fun q : Nat => s.heap.size ≤ q) (oU K o f2 :: (Wc2 ++ Wr2)) → va_S (fun q : Nat => s.heap.size ≤ q) s.heap H locs → lv_has ls 7 [(0, .ref b), (1, .ref hx), (2, .ref hm), (3, .ref o), (4, .int (nI i))] → W p l e room_1 s m #[Value.ref b] below meth c H locs (cells + 1) (slots + 6) Q (F0 m 1512 ls [])) :
    W p l e room_1 s m #[Value.ref b] below meth c H locs cells slots Q (F0 m 979 ls []) := by
  obtain ⟨C0, hTX, hX, hbl, hL⟩ := id C
  obtain ⟨⟨hx1, hb, hml, hown, hts⟩, hK, hA, -⟩ := id C0
  obtain ⟨⟨fs1, he1⟩, ⟨fs2, he2⟩⟩ := SIM_hd hsim
  have hbA : ¬ (fun q : Nat => s.heap.size ≤ q) b := Nat.not_le.mpr hbl
  have hc0 : cells + 0 ≤ room_1.cells ∧ slots + 0 ≤ room_1.slots := ⟨show cells + 0 ≤ 601024 by omega, show slots + 0 ≤ 7293034 by omega⟩
  obtain ⟨v, Wc2, Wr2, h1, h2, hsim2⟩ := sim_found l D hsim (xs (nI i + (1 : Int32)).toNatClampNeg) (bz (xs (nI i + (2 : Int32)).toNatClampNeg))
  refine lv_aload_n hx1 hb dL_law_979 rfl (lv_at hl 1 rfl) ?_
  refine lv_aload_n hx1 hb dL_law_980 rfl (lv_at hl 0 rfl) ?_
  refine lv_iload hx1 hb dL_law_981 (lv_at hl 4 rfl) ?_
  refine lv_iconst (v := 1) hx1 hb dL_law_983 (by decide) ?_
  refine lv_iadd hx1 hb dL_law_984 ?_
  refine va_sld hx1 hb hX hbl hbA hS (li_ (j := 1) (by omega) hL) dL_law_985 ?_
  refine lv_aload_n hx1 hb dL_law_986 rfl (lv_at hl 0 rfl) ?_
  refine lv_iload hx1 hb dL_law_987 (lv_at hl 4 rfl) ?_
  refine lv_iconst (v := 2) hx1 hb dL_law_989 (by decide) ?_
  refine lv_iadd hx1 hb dL_law_990 ?_
  refine va_sld hx1 hb hX hbl hbA hS (li_ (j := 2) (by omega) hL) dL_law_991 ?_
  refine lw_b hx1 hb dL_law_992 dL_law_995 dL_law_996 dL_law_999 ?_
  refine xq_i (wc := Wc) (wr := oU K o f :: Wr) (w1 := Wc2) (wn := oU K o f :: (Wc2 ++ Wr)) (pX _ _ _) (qX _ _ _) hP hD hS hA (va_runV (As := [.int (xs (nI i + (1 : Int32)).toNatClampNeg), .int (bz (xs (nI i + (2 : Int32)).toNatClampNeg))]) (rest := []) C0.1 (h1 H.size) (cwV 2 hts gL_law_X10_found rfl rfl rfl (by decide +kernel) ⟨Nat.le_of_ble_eq_true rfl, Nat.le_of_ble_eq_true rfl⟩) (yq_V C0.2 hP hD hS (pX _ _ _) 9 0 rfl he1 rfl) rfl rfl hl.1 rfl (lv_room (Nat.le_of_ble_eq_true rfl)) dL_law_1000 hc0) (fun H locs hP hD hS => ?_)
  refine lv_aload_n hx1 hb dL_law_1003 rfl (lv_at hl 2 rfl) ?_
  refine lv_aload_n hx1 hb dL_law_1004 rfl (lv_at hl 0 rfl) ?_
  refine lv_iload hx1 hb dL_law_1005 (lv_at hl 4 rfl) ?_
  refine lv_iconst (v := 1) hx1 hb dL_law_1007 (by decide) ?_
  refine lv_iadd hx1 hb dL_law_1008 ?_
  refine va_sld hx1 hb hX hbl hbA hS (li_ (j := 1) (by omega) hL) dL_law_1009 ?_
  refine lv_aload_n hx1 hb dL_law_1010 rfl (lv_at hl 0 rfl) ?_
  refine lv_iload hx1 hb dL_law_1011 (lv_at hl 4 rfl) ?_
  refine lv_iconst (v := 2) hx1 hb dL_law_1013 (by decide) ?_
  refine lv_iadd hx1 hb dL_law_1014 ?_
  refine va_sld hx1 hb hX hbl hbA hS (li_ (j := 2) (by omega) hL) dL_law_1015 ?_
  refine lw_b hx1 hb dL_law_1016 dL_law_1019 dL_law_1020 dL_law_1023 ?_
  refine xq_i (wc := Wr) (wr := oU K o f :: Wc2) (w1 := Wr2) (wn := oU K o f :: (Wc2 ++ Wr2)) (pM _ _ _) (qM _ _ _) hP hD hS hA (va_runV (As := [.int (xs (nI i + (1 : Int32)).toNatClampNeg), .int (bz (xs (nI i + (2 : Int32)).toNatClampNeg))]) (rest := [.int v]) C0.1 (h2 H.size) (cwV 2 hts gL_law_X11_found rfl rfl rfl (by decide +kernel) ⟨Nat.le_of_ble_eq_true rfl, Nat.le_of_ble_eq_true rfl⟩) (yq_V C0.2 hP hD hS (pM _ _ _) 10 0 rfl he2 rfl) rfl rfl hl.1 rfl (lv_room (Nat.le_of_ble_eq_true rfl)) dL_law_1024 hc0) (fun H locs hP hD hS => ?_)
  refine lv_icmp_eq (tgt := 1512) hx1 hb dL_law_1027 (by decide) (fun c_ => ?_) (fun c_ => absurd rfl c_)
  refine W.widen (k := cells + 1) (n := slots + 6) (by omega) (by omega) ?_
  exact HC Wc2 Wr2 f H locs ls hsim2 hP hD hS hl
set_option maxHeartbeats 4000000 in
set_option maxRecDepth 100000 in
theorem lc_22 {p : Program} {l : Launch} {e : Env} {s : State} {m : MethodId} {below : List Frame} {meth : Method} {c : Code} {Q : State → Prop} {b L : Nat} {xs : Nat → Int32} {D : va_G} {K : Nat → ClassId} (C : LC p s m c b L xs D K) {i cells slots : Nat} (hi : i + 6 ≤ L) (hcs : cells + 1 ≤ 601024 ∧ slots + 6 ≤ 7293034) {hx hm o : Nat} {f : Nat → Int64} {Wc Wr : va_W} (hsim : SIM K hx hm Wc Wr) {H : Heap} {locs : List Loc} {ls : Array Slot} (hP : va_P D vwCl (oU K o f :: (Wc ++ Wr)) H) (hD : va_D (fun q : Nat => s.heap.size ≤ q) (oU K o f :: (Wc ++ Wr))) (hS : va_S (fun q : Nat => s.heap.size ≤ q) s.heap H locs) (hl : lv_has ls 7 [(0, .ref b), (1, .ref hx), (2, .ref hm), (3, .ref o), (4, .int (nI i))])
    (HC : ∀ (Wc2 Wr2 : va_W) (f2 : Nat → Int64) (H : Heap) (locs : List Loc) (ls : Array Slot), SIM K hx hm Wc2 Wr2 → va_P D vwCl (oU K o f2 :: (Wc2 ++ Wr2)) H → va_D (fun q : Nat => s.heap.size ≤ q) (oU K o f2 :: (Wc2 ++ Wr2)) → va_S (fun q : Nat => s.heap.size ≤ q) s.heap H locs → lv_has ls 7 [(0, .ref b), (1, .ref hx), (2, .ref hm), (3, .ref o), (4, .int (nI i))] → W p l e room_1 s m #[Value.ref b] below meth c H locs (cells + 1) (slots + 6) Q (F0 m 1512 ls [])) :
    W p l e room_1 s m #[Value.ref b] below meth c H locs cells slots Q (F0 m 1032 ls []) := by
  obtain ⟨C0, hTX, hX, hbl, hL⟩ := id C
  obtain ⟨⟨hx1, hb, hml, hown, hts⟩, hK, hA, -⟩ := id C0
  obtain ⟨⟨fs1, he1⟩, ⟨fs2, he2⟩⟩ := SIM_hd hsim
  have hbA : ¬ (fun q : Nat => s.heap.size ≤ q) b := Nat.not_le.mpr hbl
  have hc0 : cells + 0 ≤ room_1.cells ∧ slots + 0 ≤ room_1.slots := ⟨show cells + 0 ≤ 601024 by omega, show slots + 0 ≤ 7293034 by omega⟩
  obtain ⟨v, Wc2, Wr2, h1, h2, hsim2⟩ := sim_makers l D hsim (xs (nI i + (1 : Int32)).toNatClampNeg)
  refine lv_aload_n hx1 hb dL_law_1032 rfl (lv_at hl 1 rfl) ?_
  refine lv_aload_n hx1 hb dL_law_1033 rfl (lv_at hl 0 rfl) ?_
  refine lv_iload hx1 hb dL_law_1034 (lv_at hl 4 rfl) ?_
  refine lv_iconst (v := 1) hx1 hb dL_law_1036 (by decide) ?_
  refine lv_iadd hx1 hb dL_law_1037 ?_
  refine va_sld hx1 hb hX hbl hbA hS (li_ (j := 1) (by omega) hL) dL_law_1038 ?_
  refine xq_i (wc := Wc) (wr := oU K o f :: Wr) (w1 := Wc2) (wn := oU K o f :: (Wc2 ++ Wr)) (pX _ _ _) (qX _ _ _) hP hD hS hA (va_runV (As := [.int (xs (nI i + (1 : Int32)).toNatClampNeg)]) (rest := []) C0.1 (h1 H.size) (cwV 1 hts gL_law_X10_makers rfl rfl rfl (by decide +kernel) ⟨Nat.le_of_ble_eq_true rfl, Nat.le_of_ble_eq_true rfl⟩) (yq_V C0.2 hP hD hS (pX _ _ _) 9 0 rfl he1 rfl) rfl rfl hl.1 rfl (lv_room (Nat.le_of_ble_eq_true rfl)) dL_law_1039 hc0) (fun H locs hP hD hS => ?_)
  refine lv_aload_n hx1 hb dL_law_1042 rfl (lv_at hl 2 rfl) ?_
  refine lv_aload_n hx1 hb dL_law_1043 rfl (lv_at hl 0 rfl) ?_
  refine lv_iload hx1 hb dL_law_1044 (lv_at hl 4 rfl) ?_
  refine lv_iconst (v := 1) hx1 hb dL_law_1046 (by decide) ?_
  refine lv_iadd hx1 hb dL_law_1047 ?_
  refine va_sld hx1 hb hX hbl hbA hS (li_ (j := 1) (by omega) hL) dL_law_1048 ?_
  refine xq_i (wc := Wr) (wr := oU K o f :: Wc2) (w1 := Wr2) (wn := oU K o f :: (Wc2 ++ Wr2)) (pM _ _ _) (qM _ _ _) hP hD hS hA (va_runV (As := [.int (xs (nI i + (1 : Int32)).toNatClampNeg)]) (rest := [.int v]) C0.1 (h2 H.size) (cwV 1 hts gL_law_X11_makers rfl rfl rfl (by decide +kernel) ⟨Nat.le_of_ble_eq_true rfl, Nat.le_of_ble_eq_true rfl⟩) (yq_V C0.2 hP hD hS (pM _ _ _) 10 0 rfl he2 rfl) rfl rfl hl.1 rfl (lv_room (Nat.le_of_ble_eq_true rfl)) dL_law_1049 hc0) (fun H locs hP hD hS => ?_)
  refine lv_icmp_eq (tgt := 1512) hx1 hb dL_law_1052 (by decide) (fun c_ => ?_) (fun c_ => absurd rfl c_)
  refine W.widen (k := cells + 1) (n := slots + 6) (by omega) (by omega) ?_
  exact HC Wc2 Wr2 f H locs ls hsim2 hP hD hS hl
/-! ===== END ===== -/
