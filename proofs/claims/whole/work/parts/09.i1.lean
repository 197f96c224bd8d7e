/-! ===== BEGIN the law's loop ===== -/
theorem ll_0 {i L : Nat} (hi : i ≤ 4000) (hL : L ≤ 3072) : (Int32.ofNat L - (6 : Int32) < nI i) = ((L : Int) - 6 < (i : Int)) := by
  show (nI L - iI 6 < nI i) = _
  rw [iI_nI, iI_nI i, iI_sub]
  exact iI_lt (by omega) (by omega)
theorem ll_1 {i L : Nat} (h : L + 1 ≤ i + 6 ∧ i ≤ 4000) (hL : L ≤ 3072) : Int32.ofNat L - (6 : Int32) < nI i := by
  rw [ll_0 h.2 hL]
  omega
theorem ll_2 {i L : Nat} (h : i ≤ 4000) (hL : L ≤ 3072) (hc : ¬ Int32.ofNat L - (6 : Int32) < nI i) : i + 6 ≤ L := by
  rw [ll_0 h hL] at hc
  omega
theorem ll_3 (i : Nat) : nI i + Int32.ofInt 6 = nI (i + 6) := by
  show nI i + iI 6 = _
  rw [iI_nI, iI_add, iI_nI (i + 6)]
  congr 1
set_option maxHeartbeats 8000000 in
set_option maxRecDepth 100000 in
theorem law_loop {p : Program} {l : Launch} {e : Env} {s : State} {m : MethodId} {below : List Frame} {meth : Method} {c : Code} {b L : Nat} {xs : Nat → Int32} {D : va_G} {K : Nat → ClassId} (hl0 : l.stackTraces = false) (C : LC p s m c b L xs D K) (hr : meth.sig.returnType = ret) (hlocks : meth.locks = false) {hx hm o : Nat} :
    ∀ (n i : Nat), L + 1 ≤ i + n → i ≤ L + 6 → ∀ (Wc Wr : va_W) (f : Nat → Int64) (H : Heap) (locs : List Loc) (ls : Array Slot), SIM K hx hm Wc Wr → va_P D vwCl (oU K o f :: (Wc ++ Wr)) H → va_D (fun q : Nat => s.heap.size ≤ q) (oU K o f :: (Wc ++ Wr)) → va_S (fun q : Nat => s.heap.size ≤ q) s.heap H locs → lv_has ls 7 [(0, .ref b), (1, .ref hx), (2, .ref hm), (3, .ref o), (4, .int (nI i))] →
      W p l e room_1 s m #[Value.ref b] below meth c H locs (200 + i) (10000 + i) (lw_Z below #[Value.ref b] s) (F0 m 23 ls []) := by
  obtain ⟨C0, hTX, hX, hbl, hL⟩ := id C
  obtain ⟨⟨hx1, hb, hml, hown, hts⟩, hK, hA, -⟩ := id C0
  have hbA : ¬ (fun q : Nat => s.heap.size ≤ q) b := Nat.not_le.mpr hbl
  intro n
  induction n with
  | zero =>
    intro i h1 h2 Wc Wr f H locs ls hsim hP hD hS hl
    refine lv_iload hx1 hb dL_law_23 (lv_at hl 4 rfl) ?_
    refine lv_aload_n hx1 hb dL_law_25 rfl (lv_at hl 0 rfl) ?_
    refine va_slen hx1 hb hX hbl hbA hS dL_law_26 ?_
    refine lv_bipush (v := 6) hx1 hb dL_law_27 (by decide) ?_
    refine lv_isub hx1 hb dL_law_29 ?_
    refine lv_icmp_gt (tgt := 1518) hx1 hb dL_law_30 (by decide) (fun c_ => ?_) (fun c_ => absurd (ll_1 ⟨by omega, by omega⟩ hL) c_)
    refine lv_iconst (v := 1) hx1 hb dL_law_1518 (by decide) ?_
    refine va_forget (fun q hq => hS.2.2 q hq) ?_
    refine W.widen (k := 601024) (n := 7293034) (by omega) (by omega) ?_
    exact lw_ret hx1 hb hr hlocks dL_law_1519
  | succ n ih =>
    intro i h1 h2 Wc Wr f H locs ls hsim hP hD hS hl
    refine lv_iload hx1 hb dL_law_23 (lv_at hl 4 rfl) ?_
    refine lv_aload_n hx1 hb dL_law_25 rfl (lv_at hl 0 rfl) ?_
    refine va_slen hx1 hb hX hbl hbA hS dL_law_26 ?_
    refine lv_bipush (v := 6) hx1 hb dL_law_27 (by decide) ?_
    refine lv_isub hx1 hb dL_law_29 ?_
    refine lv_icmp_gt (tgt := 1518) hx1 hb dL_law_30 (by decide) (fun c_ => ?_) (fun c_ => ?_)
    · refine lv_iconst (v := 1) hx1 hb dL_law_1518 (by decide) ?_
      refine va_forget (fun q hq => hS.2.2 q hq) ?_
      refine W.widen (k := 601024) (n := 7293034) (by omega) (by omega) ?_
      exact lw_ret hx1 hb hr hlocks dL_law_1519
    have hi : i + 6 ≤ L := ll_2 (by omega) hL c_
    have hcs : 200 + i + 1 ≤ 601024 ∧ 10000 + i + 6 ≤ 7293034 := ⟨by omega, by omega⟩
    have HC : ∀ (Wc2 Wr2 : va_W) (f2 : Nat → Int64) (H : Heap) (locs : List Loc) (ls : Array Slot), SIM K hx hm Wc2 Wr2 → va_P D vwCl (oU K o f2 :: (Wc2 ++ Wr2)) H → va_D (fun q : Nat => s.heap.size ≤ q) (oU K o f2 :: (Wc2 ++ Wr2)) → va_S (fun q : Nat => s.heap.size ≤ q) s.heap H locs → lv_has ls 7 [(0, .ref b), (1, .ref hx), (2, .ref hm), (3, .ref o), (4, .int (nI i))] → W p l e room_1 s m #[Value.ref b] below meth c H locs (200 + i + 1) (10000 + i + 6) (lw_Z below #[Value.ref b] s) (F0 m 1512 ls []) := by
      intro Wc2 Wr2 f2 H locs ls hsim hP hD hS hl
      refine lv_iinc (v := nI (i + 6)) (lv' := [(4, .int (nI (i + 6))), (0, .ref b), (1, .ref hx), (2, .ref hm), (3, .ref o)]) hx1 hb dL_law_1512 hl (k := 4) rfl (ll_3 i) (by decide) rfl (fun ls hl => ?_)
      refine lv_goto (tgt := 23) hx1 hb dL_law_1515 (by decide) ?_
      refine W.widen (k := 200 + (i + 6)) (n := 10000 + (i + 6)) (by omega) (by omega) ?_
      exact ih (i + 6) (by omega) (by omega) Wc2 Wr2 f2 H locs ls hsim hP hD hS (lv_sub hl [1, 2, 3, 4, 0] rfl)
    refine lv_aload_n hx1 hb dL_law_33 rfl (lv_at hl 0 rfl) ?_
    refine lv_iload hx1 hb dL_law_34 (lv_at hl 4 rfl) ?_
    refine va_sld hx1 hb hX hbl hbA hS (vp_in_nI (by omega) (by omega)) dL_law_36 ?_
    refine lv_bipush (v := 63) hx1 hb dL_law_37 (by decide) ?_
    refine lv_iand hx1 hb dL_law_39 ?_
    refine lv_topi (fun w_ ew_ => ?_)
    by_cases c_0 : w_ = (0 : Int32)
    · refine lv_tableIn (off := 152) (tgt := 192) hx1 hb dL_law_40 (by rw [c_0]; decide) (by rw [c_0]; decide) (by rw [c_0]; rfl) (by decide) ?_
      exact lc_0 C hi hcs hsim hP hD hS hl HC
    by_cases c_1 : w_ = (1 : Int32)
    · refine lv_tableIn (off := 209) (tgt := 249) hx1 hb dL_law_40 (by rw [c_1]; decide) (by rw [c_1]; decide) (by rw [c_1]; rfl) (by decide) ?_
      exact lc_1 C hi hcs hsim hP hD hS hl HC
    by_cases c_2 : w_ = (2 : Int32)
    · refine lv_tableIn (off := 222) (tgt := 262) hx1 hb dL_law_40 (by rw [c_2]; decide) (by rw [c_2]; decide) (by rw [c_2]; rfl) (by decide) ?_
      exact lc_2 C hi hcs hsim hP hD hS hl HC
    by_cases c_3 : w_ = (3 : Int32)
    · refine lv_tableIn (off := 263) (tgt := 303) hx1 hb dL_law_40 (by rw [c_3]; decide) (by rw [c_3]; decide) (by rw [c_3]; rfl) (by decide) ?_
      exact lc_3 C hi hcs hsim hP hD hS hl HC
    by_cases c_4 : w_ = (4 : Int32)
    · refine lv_tableIn (off := 316) (tgt := 356) hx1 hb dL_law_40 (by rw [c_4]; decide) (by rw [c_4]; decide) (by rw [c_4]; rfl) (by decide) ?_
      exact lc_4 C hi hcs hsim hP hD hS hl HC
    by_cases c_5 : w_ = (5 : Int32)
    · refine lv_tableIn (off := 353) (tgt := 393) hx1 hb dL_law_40 (by rw [c_5]; decide) (by rw [c_5]; decide) (by rw [c_5]; rfl) (by decide) ?_
      exact lc_5 C hi hcs hsim hP hD hS hl HC
    by_cases c_6 : w_ = (6 : Int32)
    · refine lv_tableIn (off := 402) (tgt := 442) hx1 hb dL_law_40 (by rw [c_6]; decide) (by rw [c_6]; decide) (by rw [c_6]; rfl) (by decide) ?_
      exact lc_6 C hi hcs hsim hP hD hS hl HC
    by_cases c_7 : w_ = (7 : Int32)
    · refine lv_tableIn (off := 427) (tgt := 467) hx1 hb dL_law_40 (by rw [c_7]; decide) (by rw [c_7]; decide) (by rw [c_7]; rfl) (by decide) ?_
      exact lc_7 C hi hcs hsim hP hD hS hl HC
    by_cases c_8 : w_ = (8 : Int32)
    · refine lv_tableIn (off := 452) (tgt := 492) hx1 hb dL_law_40 (by rw [c_8]; decide) (by rw [c_8]; decide) (by rw [c_8]; rfl) (by decide) ?_
      exact lc_8 C hi hcs hsim hP hD hS hl HC
    by_cases c_9 : w_ = (9 : Int32)
    · refine lv_tableIn (off := 465) (tgt := 505) hx1 hb dL_law_40 (by rw [c_9]; decide) (by rw [c_9]; decide) (by rw [c_9]; rfl) (by decide) ?_
      exact lc_9 C hi hcs hsim hP hD hS hl HC
    by_cases c_10 : w_ = (10 : Int32)
    · refine lv_tableIn (off := 478) (tgt := 518) hx1 hb dL_law_40 (by rw [c_10]; decide) (by rw [c_10]; decide) (by rw [c_10]; rfl) (by decide) ?_
      exact lc_10 C hi hcs hsim hP hD hS hl HC
    by_cases c_11 : w_ = (11 : Int32)
    · refine lv_tableIn (off := 503) (tgt := 543) hx1 hb dL_law_40 (by rw [c_11]; decide) (by rw [c_11]; decide) (by rw [c_11]; rfl) (by decide) ?_
      exact lc_11 hl0 C hi hcs hsim hP hD hS hl HC
    by_cases c_12 : w_ = (12 : Int32)
    · refine lv_tableIn (off := 571) (tgt := 611) hx1 hb dL_law_40 (by rw [c_12]; decide) (by rw [c_12]; decide) (by rw [c_12]; rfl) (by decide) ?_
      exact lc_12 hl0 C hi hcs hsim hP hD hS hl HC
    by_cases c_13 : w_ = (13 : Int32)
    · refine lv_tableIn (off := 639) (tgt := 679) hx1 hb dL_law_40 (by rw [c_13]; decide) (by rw [c_13]; decide) (by rw [c_13]; rfl) (by decide) ?_
      exact lc_13 C hi hcs hsim hP hD hS hl HC
    by_cases c_14 : w_ = (14 : Int32)
    · refine lv_tableIn (off := 664) (tgt := 704) hx1 hb dL_law_40 (by rw [c_14]; decide) (by rw [c_14]; decide) (by rw [c_14]; rfl) (by decide) ?_
      exact lc_14 C hi hcs hsim hP hD hS hl HC
    by_cases c_15 : w_ = (15 : Int32)
    · refine lv_tableIn (off := 701) (tgt := 741) hx1 hb dL_law_40 (by rw [c_15]; decide) (by rw [c_15]; decide) (by rw [c_15]; rfl) (by decide) ?_
      exact lc_15 C hi hcs hsim hP hD hS hl HC
    by_cases c_16 : w_ = (16 : Int32)
    · refine lv_tableIn (off := 726) (tgt := 766) hx1 hb dL_law_40 (by rw [c_16]; decide) (by rw [c_16]; decide) (by rw [c_16]; rfl) (by decide) ?_
      exact lc_16 C hi hcs hsim hP hD hS hl HC
    by_cases c_17 : w_ = (17 : Int32)
    · refine lv_tableIn (off := 739) (tgt := 779) hx1 hb dL_law_40 (by rw [c_17]; decide) (by rw [c_17]; decide) (by rw [c_17]; rfl) (by decide) ?_
      exact lc_17 C hi hcs hsim hP hD hS hl HC
    by_cases c_18 : w_ = (18 : Int32)
    · refine lv_tableIn (off := 776) (tgt := 816) hx1 hb dL_law_40 (by rw [c_18]; decide) (by rw [c_18]; decide) (by rw [c_18]; rfl) (by decide) ?_
      exact lc_18 C hi hcs hsim hP hD hS hl HC
    by_cases c_19 : w_ = (19 : Int32)
    · refine lv_tableIn (off := 849) (tgt := 889) hx1 hb dL_law_40 (by rw [c_19]; decide) (by rw [c_19]; decide) (by rw [c_19]; rfl) (by decide) ?_
      exact lc_19 C hi hcs hsim hP hD hS hl HC
    by_cases c_20 : w_ = (20 : Int32)
    · refine lv_tableIn (off := 914) (tgt := 954) hx1 hb dL_law_40 (by rw [c_20]; decide) (by rw [c_20]; decide) (by rw [c_20]; rfl) (by decide) ?_
      exact lc_20 C hi hcs hsim hP hD hS hl HC
    by_cases c_21 : w_ = (21 : Int32)
    · refine lv_tableIn (off := 939) (tgt := 979) hx1 hb dL_law_40 (by rw [c_21]; decide) (by rw [c_21]; decide) (by rw [c_21]; rfl) (by decide) ?_
      exact lc_21 C hi hcs hsim hP hD hS hl HC
    by_cases c_22 : w_ = (22 : Int32)
    · refine lv_tableIn (off := 992) (tgt := 1032) hx1 hb dL_law_40 (by rw [c_22]; decide) (by rw [c_22]; decide) (by rw [c_22]; rfl) (by decide) ?_
      exact lc_22 C hi hcs hsim hP hD hS hl HC
    by_cases c_23 : w_ = (23 : Int32)
    · refine lv_tableIn (off := 1017) (tgt := 1057) hx1 hb dL_law_40 (by rw [c_23]; decide) (by rw [c_23]; decide) (by rw [c_23]; rfl) (by decide) ?_
      exact lc_23 C hi hcs hsim hP hD hS hl HC
    by_cases c_24 : w_ = (24 : Int32)
    · refine lv_tableIn (off := 1070) (tgt := 1110) hx1 hb dL_law_40 (by rw [c_24]; decide) (by rw [c_24]; decide) (by rw [c_24]; rfl) (by decide) ?_
      exact lc_24 C hi hcs hsim hP hD hS hl HC
    by_cases c_25 : w_ = (25 : Int32)
    · refine lv_tableIn (off := 1095) (tgt := 1135) hx1 hb dL_law_40 (by rw [c_25]; decide) (by rw [c_25]; decide) (by rw [c_25]; rfl) (by decide) ?_
      exact lc_25 C hi hcs hsim hP hD hS hl HC
    by_cases c_26 : w_ = (26 : Int32)
    · refine lv_tableIn (off := 1132) (tgt := 1172) hx1 hb dL_law_40 (by rw [c_26]; decide) (by rw [c_26]; decide) (by rw [c_26]; rfl) (by decide) ?_
      exact lc_26 C hi hcs hsim hP hD hS hl HC
    by_cases c_27 : w_ = (27 : Int32)
    · refine lv_tableIn (off := 1169) (tgt := 1209) hx1 hb dL_law_40 (by rw [c_27]; decide) (by rw [c_27]; decide) (by rw [c_27]; rfl) (by decide) ?_
      exact lc_27 C hi hcs hsim hP hD hS hl HC
    by_cases c_28 : w_ = (28 : Int32)
    · refine lv_tableIn (off := 1230) (tgt := 1270) hx1 hb dL_law_40 (by rw [c_28]; decide) (by rw [c_28]; decide) (by rw [c_28]; rfl) (by decide) ?_
      exact lc_28 C hi hcs hsim hP hD hS hl HC
    by_cases c_29 : w_ = (29 : Int32)
    · refine lv_tableIn (off := 1271) (tgt := 1311) hx1 hb dL_law_40 (by rw [c_29]; decide) (by rw [c_29]; decide) (by rw [c_29]; rfl) (by decide) ?_
      exact lc_29 C hi hcs hsim hP hD hS hl HC
    by_cases c_30 : w_ = (30 : Int32)
    · refine lv_tableIn (off := 1324) (tgt := 1364) hx1 hb dL_law_40 (by rw [c_30]; decide) (by rw [c_30]; decide) (by rw [c_30]; rfl) (by decide) ?_
      exact lc_30 C hi hcs hsim hP hD hS hl HC
    by_cases c_31 : w_ = (31 : Int32)
    · refine lv_tableIn (off := 1385) (tgt := 1425) hx1 hb dL_law_40 (by rw [c_31]; decide) (by rw [c_31]; decide) (by rw [c_31]; rfl) (by decide) ?_
      exact lc_31 C hi hcs hsim hP hD hS hl HC
    by_cases c_32 : w_ = (32 : Int32)
    · refine lv_tableIn (off := 1422) (tgt := 1462) hx1 hb dL_law_40 (by rw [c_32]; decide) (by rw [c_32]; decide) (by rw [c_32]; rfl) (by decide) ?_
      exact lc_32 C hi hcs hsim hP hD hS hl HC
    by_cases c_33 : w_ = (33 : Int32)
    · refine lv_tableIn (off := 1447) (tgt := 1487) hx1 hb dL_law_40 (by rw [c_33]; decide) (by rw [c_33]; decide) (by rw [c_33]; rfl) (by decide) ?_
      exact lc_33 C hi hcs hsim hP hD hS hl HC
    have q_0 := lv_neT (a := 0) c_0 (by decide)
    have q_1 := lv_neT (a := 1) c_1 (by decide)
    have q_2 := lv_neT (a := 2) c_2 (by decide)
    have q_3 := lv_neT (a := 3) c_3 (by decide)
    have q_4 := lv_neT (a := 4) c_4 (by decide)
    have q_5 := lv_neT (a := 5) c_5 (by decide)
    have q_6 := lv_neT (a := 6) c_6 (by decide)
    have q_7 := lv_neT (a := 7) c_7 (by decide)
    have q_8 := lv_neT (a := 8) c_8 (by decide)
    have q_9 := lv_neT (a := 9) c_9 (by decide)
    have q_10 := lv_neT (a := 10) c_10 (by decide)
    have q_11 := lv_neT (a := 11) c_11 (by decide)
    have q_12 := lv_neT (a := 12) c_12 (by decide)
    have q_13 := lv_neT (a := 13) c_13 (by decide)
    have q_14 := lv_neT (a := 14) c_14 (by decide)
    have q_15 := lv_neT (a := 15) c_15 (by decide)
    have q_16 := lv_neT (a := 16) c_16 (by decide)
    have q_17 := lv_neT (a := 17) c_17 (by decide)
    have q_18 := lv_neT (a := 18) c_18 (by decide)
    have q_19 := lv_neT (a := 19) c_19 (by decide)
    have q_20 := lv_neT (a := 20) c_20 (by decide)
    have q_21 := lv_neT (a := 21) c_21 (by decide)
    have q_22 := lv_neT (a := 22) c_22 (by decide)
    have q_23 := lv_neT (a := 23) c_23 (by decide)
    have q_24 := lv_neT (a := 24) c_24 (by decide)
    have q_25 := lv_neT (a := 25) c_25 (by decide)
    have q_26 := lv_neT (a := 26) c_26 (by decide)
    have q_27 := lv_neT (a := 27) c_27 (by decide)
    have q_28 := lv_neT (a := 28) c_28 (by decide)
    have q_29 := lv_neT (a := 29) c_29 (by decide)
    have q_30 := lv_neT (a := 30) c_30 (by decide)
    have q_31 := lv_neT (a := 31) c_31 (by decide)
    have q_32 := lv_neT (a := 32) c_32 (by decide)
    have q_33 := lv_neT (a := 33) c_33 (by decide)
    refine lv_tableOut (tgt := 1512) hx1 hb dL_law_40 (by omega) (by decide) ?_
    refine W.widen (k := 200 + i + 1) (n := 10000 + i + 6) (by omega) (by omega) ?_
    exact HC Wc Wr f H locs ls hsim hP hD hS hl
/-! ===== END ===== -/
