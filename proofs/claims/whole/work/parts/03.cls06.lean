/-! StaggerRadar.Dwell.takeGaps(LStaggerRadar$Radar;)V -/
abbrev rmX2_takeGaps : Room := { frames := 1, cells := 0, slots := 0, locals := 60 }
theorem fl_X2_takeGaps_9 : Cond.fieldLink RX2 9 "StaggerRadar$Dwell" "row" "[I" ∈ wsX2_takeGaps := by decide +kernel
theorem fl_X2_takeGaps_21 : Cond.fieldLink RX2 21 "StaggerRadar$Radar" "gapCount" "I" ∈ wsX2_takeGaps := by decide +kernel
theorem fl_X2_takeGaps_27 : Cond.fieldLink RX2 27 "StaggerRadar$Dwell" "rowSize" "I" ∈ wsX2_takeGaps := by decide +kernel
theorem fl_X2_takeGaps_30 : Cond.fieldLink RX2 30 "StaggerRadar$Radar" "gaps" "[I" ∈ wsX2_takeGaps := by decide +kernel
theorem iw_X2_takeGaps_X2 : ∀ w ∈ u_ws RX2 TX2 6, w ∈ wsX2_takeGaps := by decide +kernel
theorem iw_X2_takeGaps_X5 : ∀ w ∈ u_ws RX5 TX5 13, w ∈ wsX2_takeGaps := by decide +kernel
abbrev w_X2_takeGaps (K : Nat → ClassId) (g_t : Nat → Nat) (g_p1 : Nat → Nat) (t_rowSize : Int32) (t_pulses : Int32) (t_fewest : Int32) (t_row : Nat → Int32) (p1_gapCount : Int32) (p1_targetCount : Int32) (p1_lookCount : Int32) (p1_time : Int32) (p1_gone : Int32) (p1_gaps : Nat → Int32) : va_W := [((g_t 0), .inr (2, [.ref (g_t 1), .int t_rowSize, .ref (g_t 3), .int t_pulses, .ref (g_t 5), .int t_fewest])), ((g_t 1), .inl (K 0, 5, .inl t_row)), ((g_p1 0), .inr (5, [.ref (g_p1 1), .ref (g_p1 2), .ref (g_p1 3), .ref (g_p1 4), .ref (g_p1 5), .ref (g_p1 6), .ref (g_p1 7), .ref (g_p1 8), .int p1_gapCount, .int p1_targetCount, .int p1_lookCount, .int p1_time, .int p1_gone])), ((g_p1 1), .inl (K 0, 5, .inl p1_gaps))]
def F_X2_takeGaps (t_rowSize : Int32) (t_row : Nat → Int32) (p1_gapCount : Int32) (p1_gaps : Nat → Int32) : Option (Int32 × (Nat → Int32)) :=
  some (p1_gapCount, (va_cpy p1_gaps t_row 0 0 5))
set_option maxHeartbeats 4000000 in
set_option maxRecDepth 100000 in
theorem c_X2_takeGaps (l : Launch) (D : va_G) (K : Nat → ClassId) (g_t : Nat → Nat) (g_p1 : Nat → Nat) (t_rowSize : Int32) (t_pulses : Int32) (t_fewest : Int32) (t_row : Nat → Int32) (p1_gapCount : Int32) (p1_targetCount : Int32) (p1_lookCount : Int32) (p1_time : Int32) (p1_gone : Int32) (p1_gaps : Nat → Int32) (res : Int32 × (Nat → Int32)) (hF : F_X2_takeGaps t_rowSize t_row p1_gapCount p1_gaps = some res) :
    Mv_ l yX2_takeGaps wsX2_takeGaps rmX2_takeGaps D K [.ref (g_t 0), .ref (g_p1 0)] (w_X2_takeGaps K g_t g_p1 t_rowSize t_pulses t_fewest t_row p1_gapCount p1_targetCount p1_lookCount p1_time p1_gone p1_gaps) (w_X2_takeGaps K g_t g_p1 res.1 t_pulses t_fewest res.2 p1_gapCount p1_targetCount p1_lookCount p1_time p1_gone p1_gaps) := by
  refine en_v (cc := cX2_takeGaps) (maxL := 2) (own := RX2) (by decide) rfl rfl (Nat.le_of_ble_eq_true rfl) ?_
  intro p e s m args below meth c A Q H locs ls C0 hP hD hS hl HR
  obtain ⟨⟨hx, hb, hml, hown, hts⟩, hK, -⟩ := id C0
  have hl : lv_has ls 2 [(0, .ref (g_t 0)), (1, .ref (g_p1 0))] := hl
  unfold F_X2_takeGaps at hF
  refine lv_aload_n hx hb dX2_takeGaps_0 rfl (lv_at hl 0 rfl) ?_
  refine lv_aload_n hx hb dX2_takeGaps_1 rfl (lv_at hl 1 rfl) ?_
  refine va_get (D := D) (ci := 5) (v := .int p1_gapCount) (C := RX5) (T := TX5) (N := 13) hx hb hts iw_X2_takeGaps_X5 hown hK hP 2 rfl rfl 8 (by decide) (hts _ fl_X2_takeGaps_21) (fun _ h9 => h9) rfl dX2_takeGaps_2 ?_
  refine va_put (D := D) (ci := 2) (v := .int p1_gapCount) (ty := .int) (C := RX2) (T := TX2) (N := 6) hx hb hts iw_X2_takeGaps_X2 tyX2 tyX2_ok nmX2 hown hK hP hD hS 0 rfl rfl 1 (by decide) (hts _ fl_X2_takeGaps_27) (fun _ h9 => h9) rfl (by decide +kernel) rfl rfl (Nat.le_of_ble_eq_true rfl) dX2_takeGaps_5 (fun H locs hP hD hS => ?_)
  have hP : va_P D vwCl (w_X2_takeGaps K g_t g_p1 p1_gapCount t_pulses t_fewest t_row p1_gapCount p1_targetCount p1_lookCount p1_time p1_gone p1_gaps) H := hP
  have hD : va_D A (w_X2_takeGaps K g_t g_p1 p1_gapCount t_pulses t_fewest t_row p1_gapCount p1_targetCount p1_lookCount p1_time p1_gone p1_gaps) := hD
  refine lv_aload_n hx hb dX2_takeGaps_8 rfl (lv_at hl 1 rfl) ?_
  refine va_get (D := D) (ci := 5) (v := .ref (g_p1 1)) (C := RX5) (T := TX5) (N := 13) hx hb hts iw_X2_takeGaps_X5 hown hK hP 2 rfl rfl 0 (by decide) (hts _ fl_X2_takeGaps_30) (fun _ h9 => h9) rfl dX2_takeGaps_9 ?_
  refine lv_iconst (v := 0) hx hb dX2_takeGaps_12 (by decide) ?_
  refine lv_aload_n hx hb dX2_takeGaps_13 rfl (lv_at hl 0 rfl) ?_
  refine va_get (D := D) (ci := 2) (v := .ref (g_t 1)) (C := RX2) (T := TX2) (N := 6) hx hb hts iw_X2_takeGaps_X2 hown hK hP 0 rfl rfl 0 (by decide) (hts _ fl_X2_takeGaps_9) (fun _ h9 => h9) rfl dX2_takeGaps_14 ?_
  refine lv_iconst (v := 0) hx hb dX2_takeGaps_17 (by decide) ?_
  refine lv_iconst (v := 5) hx hb dX2_takeGaps_18 (by decide) ?_
  refine xy_i (f := p1_gaps) (g := t_row) hx hb (hml.trans hl.1.symm) hown (hts (.methodLink RX2 33 arraycopyName) (by decide +kernel)) (hts (.native arraycopyName) (by decide +kernel)) (hts (.static arraycopyName) (by decide +kernel)) (hts (.initialized "java/lang/System") (by decide +kernel)) hK hP hD hS 3 1 0 0 rfl rfl rfl rfl (by decide) (by decide) (by decide) (k1 := 0) (k2 := 0) (k3 := 5) (by decide) (by decide) (by decide) (Nat.le_of_ble_eq_true rfl) (Nat.le_of_ble_eq_true rfl) (Nat.le_of_ble_eq_true rfl) (Nat.le_of_ble_eq_true rfl) dX2_takeGaps_19 (fun H locs hP hD hS => ?_)
  have hP : va_P D vwCl (w_X2_takeGaps K g_t g_p1 p1_gapCount t_pulses t_fewest (va_cpy p1_gaps t_row 0 0 5) p1_gapCount p1_targetCount p1_lookCount p1_time p1_gone p1_gaps) H := hP
  have hD : va_D A (w_X2_takeGaps K g_t g_p1 p1_gapCount t_pulses t_fewest (va_cpy p1_gaps t_row 0 0 5) p1_gapCount p1_targetCount p1_lookCount p1_time p1_gone p1_gaps) := hD
  obtain rfl := Option.some.inj hF
  exact HR 22 H locs ls dX2_takeGaps_22 hP hD hS

/-! StaggerRadar.Dwell.send(III)V -/
abbrev rmX2_send : Room := { frames := 1, cells := 0, slots := 0, locals := 22 }
theorem fl_X2_send_9 : Cond.fieldLink RX2 9 "StaggerRadar$Dwell" "row" "[I" ∈ wsX2_send := by decide +kernel
theorem fl_X2_send_15 : Cond.fieldLink RX2 15 "StaggerRadar$Dwell" "sent" "[I" ∈ wsX2_send := by decide +kernel
theorem fl_X2_send_27 : Cond.fieldLink RX2 27 "StaggerRadar$Dwell" "rowSize" "I" ∈ wsX2_send := by decide +kernel
theorem fl_X2_send_39 : Cond.fieldLink RX2 39 "StaggerRadar$Dwell" "pulses" "I" ∈ wsX2_send := by decide +kernel
theorem ld_X2_send_42 : Cond.constant RX2 42 (1103515245) ∈ wsX2_send := by decide +kernel
theorem iw_X2_send_X2 : ∀ w ∈ u_ws RX2 TX2 6, w ∈ wsX2_send := by decide +kernel
abbrev w_X2_send (K : Nat → ClassId) (g_t : Nat → Nat) (t_rowSize : Int32) (t_pulses : Int32) (t_fewest : Int32) (t_row : Nat → Int32) (t_sent : Nat → Int32) : va_W := [((g_t 0), .inr (2, [.ref (g_t 1), .int t_rowSize, .ref (g_t 3), .int t_pulses, .ref (g_t 5), .int t_fewest])), ((g_t 1), .inl (K 0, 5, .inl t_row)), ((g_t 3), .inl (K 0, 65, .inl t_sent))]
def L_X2_send_14 (t_rowSize : Int32) (t_row : Nat → Int32) : Nat → Int32 → (Nat → Int32) → Int32 → Int32 → Int32 → Int32 → Int32 → Option (Int32 × (Nat → Int32))
  | 0, _, _, _, _, _, _, _ => none
  | n_ + 1, t_pulses, t_sent, x1, x3, x4, x5, x6 =>
    if x1 ≤ x6 then (some (t_pulses, t_sent)) else (if (64 : Int32) ≤ x6 then (some (t_pulses, t_sent)) else (gd_ (in_b x6 65) ((F_X10_rest x6 t_rowSize).bind fun r_4 => (gd_ (in_b r_4 5) ((F_X10_rest (((((x4 * (1103515245 : Int32)) + (12345 : Int32))).toUInt32 >>> (((16 : Int32)).toUInt32 &&& Int32.toUInt32 31)).toInt32) (((2 : Int32) * x3) + (1 : Int32))).bind fun r_7 => (gd_ (in_b (x6 + (1 : Int32)) 65) (L_X2_send_14 t_rowSize t_row n_ t_pulses (upd (upd t_sent (x6).toNatClampNeg x5) (x6 + (1 : Int32)).toNatClampNeg (x5 + (((t_row (r_4).toNatClampNeg) + r_7) - x3))) x1 x3 ((x4 * (1103515245 : Int32)) + (12345 : Int32)) (x5 + (((t_row (r_4).toNatClampNeg) + r_7) - x3)) (x6 + (1 : Int32)))))))))
set_option maxHeartbeats 4000000 in
set_option maxRecDepth 100000 in
theorem w_X2_send_14 {p : Program} {l : Launch} {e : Env} {s : State} {m : MethodId} {args : Array Value} {below : List Frame} {meth : Method} {c : Code} {D : va_G} {K : Nat → ClassId} {A : Nat → Prop} {Q : State → Prop} (C0 : cx_ p s m args c cX2_send 7 RX2 wsX2_send D K A) {g_t : Nat → Nat} {t_rowSize : Int32} {t_fewest : Int32} {t_row : Nat → Int32} {res : Int32 × (Nat → Int32)} (HR : ∀ (pc : Nat) (H : Heap) (locs : List Loc) (ls : Array Slot), decode cX2_send pc = .ok (.return_, 1) → va_P D vwCl (w_X2_send K g_t t_rowSize res.1 t_fewest t_row res.2) H → va_D A (w_X2_send K g_t t_rowSize res.1 t_fewest t_row res.2) → va_S A s.heap H locs → W p l e rmX2_send s m args below meth c H locs 0 0 Q (F0 m pc ls []))  :
    ∀ (n_ : Nat) (t_pulses : Int32) (t_sent : Nat → Int32) (x1 : Int32) (x3 : Int32) (x4 : Int32) (x5 : Int32) (x6 : Int32) (H : Heap) (locs : List Loc) (ls : Array Slot), va_P D vwCl (w_X2_send K g_t t_rowSize t_pulses t_fewest t_row t_sent) H → va_D A (w_X2_send K g_t t_rowSize t_pulses t_fewest t_row t_sent) → va_S A s.heap H locs → lv_has ls 7 [(0, .ref (g_t 0)), (1, .int x1), (3, .int x3), (4, .int x4), (5, .int x5), (6, .int x6)] → L_X2_send_14 t_rowSize t_row n_ t_pulses t_sent x1 x3 x4 x5 x6 = some res → W p l e rmX2_send s m args below meth c H locs 0 0 Q (F0 m 14 ls []) := by
  obtain ⟨⟨hx, hb, hml, hown, hts⟩, hK, -⟩ := id C0
  intro n_
  induction n_ with
  | zero =>
    intro t_pulses t_sent x1 x3 x4 x5 x6 H locs ls hP hD hS hl hF
    exact no_s (show (none : Option (Int32 × (Nat → Int32))) = some res from hF)
  | succ n_ ih =>
    intro t_pulses t_sent x1 x3 x4 x5 x6 H locs ls hP hD hS hl hF
    rw [L_X2_send_14] at hF
    refine lv_iload hx hb dX2_send_14 (lv_at hl 5 rfl) ?_
    refine lv_iload_n hx hb dX2_send_16 rfl (lv_at hl 1 rfl) ?_
    refine lv_icmp_ge (tgt := 99) hx hb dX2_send_17 (by decide) (fun c_1 => ?_) (fun c_1 => ?_)
    · have hF := it_pos c_1 hF
      obtain rfl := Option.some.inj hF
      exact HR 99 H locs ls dX2_send_99 hP hD hS
    · have hF := it_neg c_1 hF
      refine lv_iload hx hb dX2_send_20 (lv_at hl 5 rfl) ?_
      refine lv_bipush (v := 64) hx hb dX2_send_22 (by decide) ?_
      refine lv_icmp_ge (tgt := 99) hx hb dX2_send_24 (by decide) (fun c_2 => ?_) (fun c_2 => ?_)
      · have hF := it_pos c_2 hF
        obtain rfl := Option.some.inj hF
        exact HR 99 H locs ls dX2_send_99 hP hD hS
      · have hF := it_neg c_2 hF
        refine lv_aload_n hx hb dX2_send_27 rfl (lv_at hl 0 rfl) ?_
        refine va_get (D := D) (ci := 2) (v := .ref (g_t 3)) (C := RX2) (T := TX2) (N := 6) hx hb hts iw_X2_send_X2 hown hK hP 0 rfl rfl 2 (by decide) (hts _ fl_X2_send_15) (fun _ h9 => h9) rfl dX2_send_28 ?_
        refine lv_iload hx hb dX2_send_31 (lv_at hl 5 rfl) ?_
        refine lv_iload hx hb dX2_send_33 (lv_at hl 4 rfl) ?_
        obtain ⟨hg_3, hF⟩ := gd_some hF
        refine xs_i (f := t_sent) hx hb hK hP hD hS 2 0 rfl rfl rfl (in_v hg_3) dX2_send_35 (fun H locs hP hD hS => ?_)
        have hP : va_P D vwCl (w_X2_send K g_t t_rowSize t_pulses t_fewest t_row (upd t_sent (x6).toNatClampNeg x5)) H := hP
        have hD : va_D A (w_X2_send K g_t t_rowSize t_pulses t_fewest t_row (upd t_sent (x6).toNatClampNeg x5)) := hD
        refine lv_iload hx hb dX2_send_36 (lv_at hl 3 rfl) ?_
        refine lv_ldc (v := 1103515245) hx hb hown (hts _ ld_X2_send_42) dX2_send_38 ?_
        refine lv_imul hx hb dX2_send_40 ?_
        refine lv_sipush (v := 12345) hx hb dX2_send_41 (by decide) ?_
        refine lv_iadd hx hb dX2_send_44 ?_
        refine lv_istore (lv' := [(4, .int ((x4 * (1103515245 : Int32)) + (12345 : Int32))), (0, .ref (g_t 0)), (1, .int x1), (3, .int x3), (5, .int x5), (6, .int x6)]) hx hb dX2_send_45 hl (by decide) rfl (fun ls hl => ?_)
        refine lv_iload hx hb dX2_send_47 (lv_at hl 4 rfl) ?_
        refine lv_aload_n hx hb dX2_send_49 rfl (lv_at hl 1 rfl) ?_
        refine va_get (D := D) (ci := 2) (v := .ref (g_t 1)) (C := RX2) (T := TX2) (N := 6) hx hb hts iw_X2_send_X2 hown hK hP 0 rfl rfl 0 (by decide) (hts _ fl_X2_send_9) (fun _ h9 => h9) rfl dX2_send_50 ?_
        refine lv_iload hx hb dX2_send_53 (lv_at hl 5 rfl) ?_
        refine lv_aload_n hx hb dX2_send_55 rfl (lv_at hl 1 rfl) ?_
        refine va_get (D := D) (ci := 2) (v := .int t_rowSize) (C := RX2) (T := TX2) (N := 6) hx hb hts iw_X2_send_X2 hown hK hP 0 rfl rfl 1 (by decide) (hts _ fl_X2_send_27) (fun _ h9 => h9) rfl dX2_send_56 ?_
        obtain ⟨r_4, hc_5, hF⟩ := bn_some hF
        refine xc_i (wn := (w_X2_send K g_t t_rowSize t_pulses t_fewest t_row (upd t_sent (x6).toNatClampNeg x5))) hP hD hS C0.2.2.1 [] [0, 1, 2] [0, 1, 2] rfl rfl (by decide) (by decide) rfl (by decide) (va_runSN (host := "StaggerRadar") (As := [.int x6, .int t_rowSize]) (rest := [.ref (g_t 1), .int x5]) C0.1 (c_X10_rest l D K x6 t_rowSize r_4 hc_5 H.size) ⟨va_cnB 2 hts gX2_send_X10_rest_n43 rfl rfl rfl (C0.2.2.2.1.1 ("StaggerRadar$Dwell", 43, ⟨"StaggerRadar", "rest", "(II)I"⟩, "StaggerRadar") (by decide +kernel)) (hts (.initialized RX10) (by decide +kernel)) (by decide +kernel) ⟨Nat.le_of_ble_eq_true rfl, Nat.le_of_ble_eq_true rfl⟩, hts (.static yX10_rest) (by decide +kernel), trivial⟩ (xp_S C0.2 hP hD hS [] rfl (by decide)) rfl rfl hl.1 rfl (lv_room (Nat.le_of_ble_eq_true rfl)) dX2_send_59 ⟨Nat.le_of_ble_eq_true rfl, Nat.le_of_ble_eq_true rfl⟩) (fun H locs hP hD hS => ?_)
        obtain ⟨hg_6, hF⟩ := gd_some hF
        refine xl_i (f := t_row) hx hb hK hP 1 0 rfl rfl rfl (in_v hg_6) dX2_send_62 ?_
        refine lv_iload hx hb dX2_send_63 (lv_at hl 0 rfl) ?_
        refine lv_bipush (v := 16) hx hb dX2_send_65 (by decide) ?_
        refine lv_iushr hx hb dX2_send_67 rfl ?_
        refine lv_iconst (v := 2) hx hb dX2_send_68 (by decide) ?_
        refine lv_iload_n hx hb dX2_send_69 rfl (lv_at hl 3 rfl) ?_
        refine lv_imul hx hb dX2_send_70 ?_
        refine lv_iconst (v := 1) hx hb dX2_send_71 (by decide) ?_
        refine lv_iadd hx hb dX2_send_72 ?_
        obtain ⟨r_7, hc_8, hF⟩ := bn_some hF
        refine xc_i (wn := (w_X2_send K g_t t_rowSize t_pulses t_fewest t_row (upd t_sent (x6).toNatClampNeg x5))) hP hD hS C0.2.2.1 [] [0, 1, 2] [0, 1, 2] rfl rfl (by decide) (by decide) rfl (by decide) (va_runSN (host := "StaggerRadar") (As := [.int (((((x4 * (1103515245 : Int32)) + (12345 : Int32))).toUInt32 >>> (((16 : Int32)).toUInt32 &&& Int32.toUInt32 31)).toInt32), .int (((2 : Int32) * x3) + (1 : Int32))]) (rest := [.int (t_row (r_4).toNatClampNeg), .int x5]) C0.1 (c_X10_rest l D K (((((x4 * (1103515245 : Int32)) + (12345 : Int32))).toUInt32 >>> (((16 : Int32)).toUInt32 &&& Int32.toUInt32 31)).toInt32) (((2 : Int32) * x3) + (1 : Int32)) r_7 hc_8 H.size) ⟨va_cnB 2 hts gX2_send_X10_rest_n43 rfl rfl rfl (C0.2.2.2.1.1 ("StaggerRadar$Dwell", 43, ⟨"StaggerRadar", "rest", "(II)I"⟩, "StaggerRadar") (by decide +kernel)) (hts (.initialized RX10) (by decide +kernel)) (by decide +kernel) ⟨Nat.le_of_ble_eq_true rfl, Nat.le_of_ble_eq_true rfl⟩, hts (.static yX10_rest) (by decide +kernel), trivial⟩ (xp_S C0.2 hP hD hS [] rfl (by decide)) rfl rfl hl.1 rfl (lv_room (Nat.le_of_ble_eq_true rfl)) dX2_send_73 ⟨Nat.le_of_ble_eq_true rfl, Nat.le_of_ble_eq_true rfl⟩) (fun H locs hP hD hS => ?_)
        refine lv_iadd hx hb dX2_send_76 ?_
        refine lv_iload_n hx hb dX2_send_77 rfl (lv_at hl 3 rfl) ?_
        refine lv_isub hx hb dX2_send_78 ?_
        refine lv_iadd hx hb dX2_send_79 ?_
        refine lv_istore (lv' := [(5, .int (x5 + (((t_row (r_4).toNatClampNeg) + r_7) - x3))), (4, .int ((x4 * (1103515245 : Int32)) + (12345 : Int32))), (0, .ref (g_t 0)), (1, .int x1), (3, .int x3), (6, .int x6)]) hx hb dX2_send_80 hl (by decide) rfl (fun ls hl => ?_)
        refine lv_aload_n hx hb dX2_send_82 rfl (lv_at hl 2 rfl) ?_
        refine va_get (D := D) (ci := 2) (v := .ref (g_t 3)) (C := RX2) (T := TX2) (N := 6) hx hb hts iw_X2_send_X2 hown hK hP 0 rfl rfl 2 (by decide) (hts _ fl_X2_send_15) (fun _ h9 => h9) rfl dX2_send_83 ?_
        refine lv_iload hx hb dX2_send_86 (lv_at hl 5 rfl) ?_
        refine lv_iconst (v := 1) hx hb dX2_send_88 (by decide) ?_
        refine lv_iadd hx hb dX2_send_89 ?_
        refine lv_iload hx hb dX2_send_90 (lv_at hl 0 rfl) ?_
        obtain ⟨hg_9, hF⟩ := gd_some hF
        refine xs_i (f := (upd t_sent (x6).toNatClampNeg x5)) hx hb hK hP hD hS 2 0 rfl rfl rfl (in_v hg_9) dX2_send_92 (fun H locs hP hD hS => ?_)
        have hP : va_P D vwCl (w_X2_send K g_t t_rowSize t_pulses t_fewest t_row (upd (upd t_sent (x6).toNatClampNeg x5) (x6 + (1 : Int32)).toNatClampNeg (x5 + (((t_row (r_4).toNatClampNeg) + r_7) - x3)))) H := hP
        have hD : va_D A (w_X2_send K g_t t_rowSize t_pulses t_fewest t_row (upd (upd t_sent (x6).toNatClampNeg x5) (x6 + (1 : Int32)).toNatClampNeg (x5 + (((t_row (r_4).toNatClampNeg) + r_7) - x3)))) := hD
        refine lv_iinc (v := (x6 + (1 : Int32))) (lv' := [(6, .int (x6 + (1 : Int32))), (5, .int (x5 + (((t_row (r_4).toNatClampNeg) + r_7) - x3))), (4, .int ((x4 * (1103515245 : Int32)) + (12345 : Int32))), (0, .ref (g_t 0)), (1, .int x1), (3, .int x3)]) hx hb dX2_send_93 hl (k := 5) rfl (congrArg (fun z => x6 + z) (by decide)) (by decide) rfl (fun ls hl => ?_)
        refine lv_goto (tgt := 14) hx hb dX2_send_96 (by decide) ?_
        exact ih t_pulses (upd (upd t_sent (x6).toNatClampNeg x5) (x6 + (1 : Int32)).toNatClampNeg (x5 + (((t_row (r_4).toNatClampNeg) + r_7) - x3))) x1 x3 ((x4 * (1103515245 : Int32)) + (12345 : Int32)) (x5 + (((t_row (r_4).toNatClampNeg) + r_7) - x3)) (x6 + (1 : Int32)) H locs ls hP hD hS (lv_sub hl [3, 4, 5, 2, 1, 0] rfl) hF
def F_X2_send (t_rowSize : Int32) (t_pulses : Int32) (t_row : Nat → Int32) (t_sent : Nat → Int32) (x1 : Int32) (x2 : Int32) (x3 : Int32) : Option (Int32 × (Nat → Int32)) :=
  L_X2_send_14 t_rowSize t_row fu_ x1 t_sent x1 x3 x2 (0 : Int32) (0 : Int32)
set_option maxHeartbeats 4000000 in
set_option maxRecDepth 100000 in
theorem c_X2_send (l : Launch) (D : va_G) (K : Nat → ClassId) (g_t : Nat → Nat) (t_rowSize : Int32) (t_pulses : Int32) (t_fewest : Int32) (t_row : Nat → Int32) (t_sent : Nat → Int32) (x1 : Int32) (x2 : Int32) (x3 : Int32) (res : Int32 × (Nat → Int32)) (hF : F_X2_send t_rowSize t_pulses t_row t_sent x1 x2 x3 = some res) :
    Mv_ l yX2_send wsX2_send rmX2_send D K [.ref (g_t 0), .int x1, .int x2, .int x3] (w_X2_send K g_t t_rowSize t_pulses t_fewest t_row t_sent) (w_X2_send K g_t t_rowSize res.1 t_fewest t_row res.2) := by
  refine en_v (cc := cX2_send) (maxL := 7) (own := RX2) (by decide) rfl rfl (Nat.le_of_ble_eq_true rfl) ?_
  intro p e s m args below meth c A Q H locs ls C0 hP hD hS hl HR
  obtain ⟨⟨hx, hb, hml, hown, hts⟩, hK, -⟩ := id C0
  have hl : lv_has ls 7 [(0, .ref (g_t 0)), (1, .int x1), (2, .int x2), (3, .int x3)] := hl
  unfold F_X2_send at hF
  refine lv_aload_n hx hb dX2_send_0 rfl (lv_at hl 0 rfl) ?_
  refine lv_iload_n hx hb dX2_send_1 rfl (lv_at hl 1 rfl) ?_
  refine va_put (D := D) (ci := 2) (v := .int x1) (ty := .int) (C := RX2) (T := TX2) (N := 6) hx hb hts iw_X2_send_X2 tyX2 tyX2_ok nmX2 hown hK hP hD hS 0 rfl rfl 3 (by decide) (hts _ fl_X2_send_39) (fun _ h9 => h9) rfl (by decide +kernel) rfl rfl (Nat.le_of_ble_eq_true rfl) dX2_send_2 (fun H locs hP hD hS => ?_)
  have hP : va_P D vwCl (w_X2_send K g_t t_rowSize x1 t_fewest t_row t_sent) H := hP
  have hD : va_D A (w_X2_send K g_t t_rowSize x1 t_fewest t_row t_sent) := hD
  refine lv_iload_n hx hb dX2_send_5 rfl (lv_at hl 2 rfl) ?_
  refine lv_istore (lv' := [(4, .int x2), (0, .ref (g_t 0)), (1, .int x1), (2, .int x2), (3, .int x3)]) hx hb dX2_send_6 hl (by decide) rfl (fun ls hl => ?_)
  refine lv_iconst (v := 0) hx hb dX2_send_8 (by decide) ?_
  refine lv_istore (lv' := [(5, .int (0 : Int32)), (4, .int x2), (0, .ref (g_t 0)), (1, .int x1), (2, .int x2), (3, .int x3)]) hx hb dX2_send_9 hl (by decide) rfl (fun ls hl => ?_)
  refine lv_iconst (v := 0) hx hb dX2_send_11 (by decide) ?_
  refine lv_istore (lv' := [(6, .int (0 : Int32)), (5, .int (0 : Int32)), (4, .int x2), (0, .ref (g_t 0)), (1, .int x1), (2, .int x2), (3, .int x3)]) hx hb dX2_send_12 hl (by decide) rfl (fun ls hl => ?_)
  exact w_X2_send_14 C0 HR fu_ x1 t_sent x1 x3 x2 (0 : Int32) (0 : Int32) H locs ls hP hD hS (lv_sub hl [3, 4, 6, 2, 1, 0] rfl) hF

/-! StaggerRadar.Dwell.longestGap()I -/
abbrev rmX2_longestGap : Room := { frames := 1, cells := 0, slots := 0, locals := 21 }
theorem fl_X2_longestGap_15 : Cond.fieldLink RX2 15 "StaggerRadar$Dwell" "sent" "[I" ∈ wsX2_longestGap := by decide +kernel
theorem fl_X2_longestGap_39 : Cond.fieldLink RX2 39 "StaggerRadar$Dwell" "pulses" "I" ∈ wsX2_longestGap := by decide +kernel
theorem iw_X2_longestGap_X2 : ∀ w ∈ u_ws RX2 TX2 6, w ∈ wsX2_longestGap := by decide +kernel
abbrev w_X2_longestGap (K : Nat → ClassId) (g_t : Nat → Nat) (t_rowSize : Int32) (t_pulses : Int32) (t_fewest : Int32) (t_sent : Nat → Int32) : va_W := [((g_t 0), .inr (2, [.ref (g_t 1), .int t_rowSize, .ref (g_t 3), .int t_pulses, .ref (g_t 5), .int t_fewest])), ((g_t 3), .inl (K 0, 65, .inl t_sent))]
def L_X2_longestGap_4 (t_pulses : Int32) (t_sent : Nat → Int32) : Nat → Int32 → Int32 → Option (Int32)
  | 0, _, _ => none
  | n_ + 1, x1, x2 =>
    if t_pulses ≤ x2 then (some x1) else (gd_ (in_b x2 65) (gd_ (in_b (x2 - (1 : Int32)) 65) (L_X2_longestGap_4 t_pulses t_sent n_ (if x1 < ((t_sent (x2).toNatClampNeg) - (t_sent (x2 - (1 : Int32)).toNatClampNeg)) then ((t_sent (x2).toNatClampNeg) - (t_sent (x2 - (1 : Int32)).toNatClampNeg)) else x1) (x2 + (1 : Int32)))))
set_option maxHeartbeats 4000000 in
set_option maxRecDepth 100000 in
theorem w_X2_longestGap_4 {p : Program} {l : Launch} {e : Env} {s : State} {m : MethodId} {args : Array Value} {below : List Frame} {meth : Method} {c : Code} {D : va_G} {K : Nat → ClassId} {A : Nat → Prop} {Q : State → Prop} (C0 : cx_ p s m args c cX2_longestGap 3 RX2 wsX2_longestGap D K A) {g_t : Nat → Nat} {t_rowSize : Int32} {t_pulses : Int32} {t_fewest : Int32} {t_sent : Nat → Int32} {res : Int32} (HR : ∀ (pc : Nat) (H : Heap) (locs : List Loc) (ls : Array Slot), decode cX2_longestGap pc = .ok (.ireturn, 1) → va_P D vwCl (w_X2_longestGap K g_t t_rowSize t_pulses t_fewest t_sent) H → va_D A (w_X2_longestGap K g_t t_rowSize t_pulses t_fewest t_sent) → va_S A s.heap H locs → W p l e rmX2_longestGap s m args below meth c H locs 0 0 Q (F0 m pc ls [.int res]))  :
    ∀ (n_ : Nat) (x1 : Int32) (x2 : Int32) (H : Heap) (locs : List Loc) (ls : Array Slot), va_P D vwCl (w_X2_longestGap K g_t t_rowSize t_pulses t_fewest t_sent) H → va_D A (w_X2_longestGap K g_t t_rowSize t_pulses t_fewest t_sent) → va_S A s.heap H locs → lv_has ls 3 [(0, .ref (g_t 0)), (1, .int x1), (2, .int x2)] → L_X2_longestGap_4 t_pulses t_sent n_ x1 x2 = some res → W p l e rmX2_longestGap s m args below meth c H locs 0 0 Q (F0 m 4 ls []) := by
  obtain ⟨⟨hx, hb, hml, hown, hts⟩, hK, -⟩ := id C0
  intro n_
  induction n_ with
  | zero =>
    intro x1 x2 H locs ls hP hD hS hl hF
    exact no_s (show (none : Option (Int32)) = some res from hF)
  | succ n_ ih =>
    intro x1 x2 H locs ls hP hD hS hl hF
    rw [L_X2_longestGap_4] at hF
    refine lv_iload_n hx hb dX2_longestGap_4 rfl (lv_at hl 2 rfl) ?_
    refine lv_aload_n hx hb dX2_longestGap_5 rfl (lv_at hl 0 rfl) ?_
    refine va_get (D := D) (ci := 2) (v := .int t_pulses) (C := RX2) (T := TX2) (N := 6) hx hb hts iw_X2_longestGap_X2 hown hK hP 0 rfl rfl 3 (by decide) (hts _ fl_X2_longestGap_39) (fun _ h9 => h9) rfl dX2_longestGap_6 ?_
    refine lv_icmp_ge (tgt := 38) hx hb dX2_longestGap_9 (by decide) (fun c_1 => ?_) (fun c_1 => ?_)
    · have hF := it_pos c_1 hF
      refine lv_iload_n hx hb dX2_longestGap_38 rfl (lv_at hl 1 rfl) ?_
      obtain rfl := Option.some.inj hF
      exact HR 39 H locs ls dX2_longestGap_39 hP hD hS
    · have hF := it_neg c_1 hF
      refine lv_iload_n hx hb dX2_longestGap_12 rfl (lv_at hl 1 rfl) ?_
      refine lv_aload_n hx hb dX2_longestGap_13 rfl (lv_at hl 0 rfl) ?_
      refine va_get (D := D) (ci := 2) (v := .ref (g_t 3)) (C := RX2) (T := TX2) (N := 6) hx hb hts iw_X2_longestGap_X2 hown hK hP 0 rfl rfl 2 (by decide) (hts _ fl_X2_longestGap_15) (fun _ h9 => h9) rfl dX2_longestGap_14 ?_
      refine lv_iload_n hx hb dX2_longestGap_17 rfl (lv_at hl 2 rfl) ?_
      obtain ⟨hg_2, hF⟩ := gd_some hF
      refine xl_i (f := t_sent) hx hb hK hP 1 0 rfl rfl rfl (in_v hg_2) dX2_longestGap_18 ?_
      refine lv_aload_n hx hb dX2_longestGap_19 rfl (lv_at hl 0 rfl) ?_
      refine va_get (D := D) (ci := 2) (v := .ref (g_t 3)) (C := RX2) (T := TX2) (N := 6) hx hb hts iw_X2_longestGap_X2 hown hK hP 0 rfl rfl 2 (by decide) (hts _ fl_X2_longestGap_15) (fun _ h9 => h9) rfl dX2_longestGap_20 ?_
      refine lv_iload_n hx hb dX2_longestGap_23 rfl (lv_at hl 2 rfl) ?_
      refine lv_iconst (v := 1) hx hb dX2_longestGap_24 (by decide) ?_
      refine lv_isub hx hb dX2_longestGap_25 ?_
      obtain ⟨hg_3, hF⟩ := gd_some hF
      refine xl_i (f := t_sent) hx hb hK hP 1 0 rfl rfl rfl (in_v hg_3) dX2_longestGap_26 ?_
      refine lv_isub hx hb dX2_longestGap_27 ?_
      refine va_mmax hx hb (hml.trans hl.1.symm) hown (hts (.methodLink RX2 47 Lib.Math.max.name) (by decide +kernel)) (hts (.static Lib.Math.max.name) (by decide +kernel)) (hts (.initialized "java/lang/Math") (by decide +kernel)) (hts (.code Lib.Math.max.name Lib.Math.max.code 2 (some .int)) (by decide +kernel)) (Nat.le_of_ble_eq_true rfl) (Nat.le_of_ble_eq_true rfl) (Nat.le_of_ble_eq_true rfl) (Nat.le_of_ble_eq_true rfl) dX2_longestGap_28 ?_
      refine lv_istore_n (lv' := [(1, .int (if x1 < ((t_sent (x2).toNatClampNeg) - (t_sent (x2 - (1 : Int32)).toNatClampNeg)) then ((t_sent (x2).toNatClampNeg) - (t_sent (x2 - (1 : Int32)).toNatClampNeg)) else x1)), (0, .ref (g_t 0)), (2, .int x2)]) hx hb dX2_longestGap_31 rfl hl (by decide) rfl (fun ls hl => ?_)
      refine lv_iinc (v := (x2 + (1 : Int32))) (lv' := [(2, .int (x2 + (1 : Int32))), (1, .int (if x1 < ((t_sent (x2).toNatClampNeg) - (t_sent (x2 - (1 : Int32)).toNatClampNeg)) then ((t_sent (x2).toNatClampNeg) - (t_sent (x2 - (1 : Int32)).toNatClampNeg)) else x1)), (0, .ref (g_t 0))]) hx hb dX2_longestGap_32 hl (k := 2) rfl (congrArg (fun z => x2 + z) (by decide)) (by decide) rfl (fun ls hl => ?_)
      refine lv_goto (tgt := 4) hx hb dX2_longestGap_35 (by decide) ?_
      exact ih (if x1 < ((t_sent (x2).toNatClampNeg) - (t_sent (x2 - (1 : Int32)).toNatClampNeg)) then ((t_sent (x2).toNatClampNeg) - (t_sent (x2 - (1 : Int32)).toNatClampNeg)) else x1) (x2 + (1 : Int32)) H locs ls hP hD hS (lv_sub hl [2, 1, 0] rfl) hF
def F_X2_longestGap (t_pulses : Int32) (t_sent : Nat → Int32) : Option (Int32) :=
  L_X2_longestGap_4 t_pulses t_sent fu_ (0 : Int32) (1 : Int32)
set_option maxHeartbeats 4000000 in
set_option maxRecDepth 100000 in
theorem c_X2_longestGap (l : Launch) (D : va_G) (K : Nat → ClassId) (g_t : Nat → Nat) (t_rowSize : Int32) (t_pulses : Int32) (t_fewest : Int32) (t_sent : Nat → Int32) (res : Int32) (hF : F_X2_longestGap t_pulses t_sent = some res) :
    Mi_ l yX2_longestGap wsX2_longestGap rmX2_longestGap D K [.ref (g_t 0)] (w_X2_longestGap K g_t t_rowSize t_pulses t_fewest t_sent) (w_X2_longestGap K g_t t_rowSize t_pulses t_fewest t_sent) (res) := by
  refine en_i (cc := cX2_longestGap) (maxL := 3) (own := RX2) (by decide) rfl rfl (Nat.le_of_ble_eq_true rfl) ?_
  intro p e s m args below meth c A Q H locs ls C0 hP hD hS hl HR
  obtain ⟨⟨hx, hb, hml, hown, hts⟩, hK, -⟩ := id C0
  have hl : lv_has ls 3 [(0, .ref (g_t 0))] := hl
  unfold F_X2_longestGap at hF
  refine lv_iconst (v := 0) hx hb dX2_longestGap_0 (by decide) ?_
  refine lv_istore_n (lv' := [(1, .int (0 : Int32)), (0, .ref (g_t 0))]) hx hb dX2_longestGap_1 rfl hl (by decide) rfl (fun ls hl => ?_)
  refine lv_iconst (v := 1) hx hb dX2_longestGap_2 (by decide) ?_
  refine lv_istore_n (lv' := [(2, .int (1 : Int32)), (1, .int (0 : Int32)), (0, .ref (g_t 0))]) hx hb dX2_longestGap_3 rfl hl (by decide) rfl (fun ls hl => ?_)
  exact w_X2_longestGap_4 C0 HR fu_ (0 : Int32) (1 : Int32) H locs ls hP hD hS (lv_sub hl [2, 1, 0] rfl) hF

/-! StaggerRadar.Dwell.countHiddenOf(II)I -/
abbrev rmX2_countHiddenOf : Room := { frames := 1, cells := 0, slots := 0, locals := 21 }
theorem fl_X2_countHiddenOf_15 : Cond.fieldLink RX2 15 "StaggerRadar$Dwell" "sent" "[I" ∈ wsX2_countHiddenOf := by decide +kernel
theorem fl_X2_countHiddenOf_39 : Cond.fieldLink RX2 39 "StaggerRadar$Dwell" "pulses" "I" ∈ wsX2_countHiddenOf := by decide +kernel
theorem iw_X2_countHiddenOf_X2 : ∀ w ∈ u_ws RX2 TX2 6, w ∈ wsX2_countHiddenOf := by decide +kernel
abbrev w_X2_countHiddenOf (K : Nat → ClassId) (g_t : Nat → Nat) (t_rowSize : Int32) (t_pulses : Int32) (t_fewest : Int32) (t_sent : Nat → Int32) : va_W := [((g_t 0), .inr (2, [.ref (g_t 1), .int t_rowSize, .ref (g_t 3), .int t_pulses, .ref (g_t 5), .int t_fewest])), ((g_t 3), .inl (K 0, 65, .inl t_sent))]
def J_X2_countHiddenOf_66 (t_pulses : Int32) (t_sent : Nat → Int32) (k_15 : Int32 → Int32 → Int32 → Int32 → Int32 → Option (Int32)) (x1 : Int32) (x3 : Int32) (x4 : Int32) (x5 : Int32) (x6 : Int32) (x7 : Int32) : Option (Int32) :=
  gd_ (in_b x5 65) (if x3 ≤ (x7 - (t_sent (x5).toNatClampNeg)) then (k_15 x1 x3 x4 x5 (x6 + (1 : Int32))) else (k_15 x1 x3 (x4 + (1 : Int32)) x5 (x6 + (1 : Int32))))
set_option maxHeartbeats 4000000 in
set_option maxRecDepth 100000 in
theorem w_X2_countHiddenOf_66 {p : Program} {l : Launch} {e : Env} {s : State} {m : MethodId} {args : Array Value} {below : List Frame} {meth : Method} {c : Code} {D : va_G} {K : Nat → ClassId} {A : Nat → Prop} {Q : State → Prop} (C0 : cx_ p s m args c cX2_countHiddenOf 8 RX2 wsX2_countHiddenOf D K A) {g_t : Nat → Nat} {t_rowSize : Int32} {t_pulses : Int32} {t_fewest : Int32} {t_sent : Nat → Int32} {res : Int32} (HR : ∀ (pc : Nat) (H : Heap) (locs : List Loc) (ls : Array Slot), decode cX2_countHiddenOf pc = .ok (.ireturn, 1) → va_P D vwCl (w_X2_countHiddenOf K g_t t_rowSize t_pulses t_fewest t_sent) H → va_D A (w_X2_countHiddenOf K g_t t_rowSize t_pulses t_fewest t_sent) → va_S A s.heap H locs → W p l e rmX2_countHiddenOf s m args below meth c H locs 0 0 Q (F0 m pc ls [.int res])) {k_15 : Int32 → Int32 → Int32 → Int32 → Int32 → Option (Int32)} (HK_15 : ∀ (x1 : Int32) (x3 : Int32) (x4 : Int32) (x5 : Int32) (x6 : Int32) (H : Heap) (locs : List Loc) (ls : Array Slot), va_P D vwCl (w_X2_countHiddenOf K g_t t_rowSize t_pulses t_fewest t_sent) H → va_D A (w_X2_countHiddenOf K g_t t_rowSize t_pulses t_fewest t_sent) → va_S A s.heap H locs → lv_has ls 8 [(0, .ref (g_t 0)), (1, .int x1), (3, .int x3), (4, .int x4), (5, .int x5), (6, .int x6)] → k_15 x1 x3 x4 x5 x6 = some res → W p l e rmX2_countHiddenOf s m args below meth c H locs 0 0 Q (F0 m 15 ls [])) :
    ∀ (x1 : Int32) (x3 : Int32) (x4 : Int32) (x5 : Int32) (x6 : Int32) (x7 : Int32) (H : Heap) (locs : List Loc) (ls : Array Slot), va_P D vwCl (w_X2_countHiddenOf K g_t t_rowSize t_pulses t_fewest t_sent) H → va_D A (w_X2_countHiddenOf K g_t t_rowSize t_pulses t_fewest t_sent) → va_S A s.heap H locs → lv_has ls 8 [(0, .ref (g_t 0)), (1, .int x1), (3, .int x3), (4, .int x4), (5, .int x5), (6, .int x6), (7, .int x7)] → J_X2_countHiddenOf_66 t_pulses t_sent k_15 x1 x3 x4 x5 x6 x7 = some res → W p l e rmX2_countHiddenOf s m args below meth c H locs 0 0 Q (F0 m 66 ls []) := by
  obtain ⟨⟨hx, hb, hml, hown, hts⟩, hK, -⟩ := id C0
  intro x1 x3 x4 x5 x6 x7 H locs ls hP hD hS hl hF
  unfold J_X2_countHiddenOf_66 at hF
  refine lv_iload hx hb dX2_countHiddenOf_66 (lv_at hl 6 rfl) ?_
  refine lv_aload_n hx hb dX2_countHiddenOf_68 rfl (lv_at hl 0 rfl) ?_
  refine va_get (D := D) (ci := 2) (v := .ref (g_t 3)) (C := RX2) (T := TX2) (N := 6) hx hb hts iw_X2_countHiddenOf_X2 hown hK hP 0 rfl rfl 2 (by decide) (hts _ fl_X2_countHiddenOf_15) (fun _ h9 => h9) rfl dX2_countHiddenOf_69 ?_
  refine lv_iload hx hb dX2_countHiddenOf_72 (lv_at hl 4 rfl) ?_
  obtain ⟨hg_1, hF⟩ := gd_some hF
  refine xl_i (f := t_sent) hx hb hK hP 1 0 rfl rfl rfl (in_v hg_1) dX2_countHiddenOf_74 ?_
  refine lv_isub hx hb dX2_countHiddenOf_75 ?_
  refine lv_iload_n hx hb dX2_countHiddenOf_76 rfl (lv_at hl 2 rfl) ?_
  refine lv_icmp_ge (tgt := 83) hx hb dX2_countHiddenOf_77 (by decide) (fun c_2 => ?_) (fun c_2 => ?_)
  · have hF := it_pos c_2 hF
    refine lv_iinc (v := (x6 + (1 : Int32))) (lv' := [(6, .int (x6 + (1 : Int32))), (0, .ref (g_t 0)), (1, .int x1), (3, .int x3), (4, .int x4), (5, .int x5), (7, .int x7)]) hx hb dX2_countHiddenOf_83 hl (k := 5) rfl (congrArg (fun z => x6 + z) (by decide)) (by decide) rfl (fun ls hl => ?_)
    refine lv_goto (tgt := 15) hx hb dX2_countHiddenOf_86 (by decide) ?_
    exact HK_15 x1 x3 x4 x5 (x6 + (1 : Int32)) H locs ls hP hD hS (lv_sub hl [1, 2, 3, 4, 5, 0] rfl) hF
  · have hF := it_neg c_2 hF
    refine lv_iinc (v := (x4 + (1 : Int32))) (lv' := [(4, .int (x4 + (1 : Int32))), (0, .ref (g_t 0)), (1, .int x1), (3, .int x3), (5, .int x5), (6, .int x6), (7, .int x7)]) hx hb dX2_countHiddenOf_80 hl (k := 3) rfl (congrArg (fun z => x4 + z) (by decide)) (by decide) rfl (fun ls hl => ?_)
    refine lv_iinc (v := (x6 + (1 : Int32))) (lv' := [(6, .int (x6 + (1 : Int32))), (4, .int (x4 + (1 : Int32))), (0, .ref (g_t 0)), (1, .int x1), (3, .int x3), (5, .int x5), (7, .int x7)]) hx hb dX2_countHiddenOf_83 hl (k := 5) rfl (congrArg (fun z => x6 + z) (by decide)) (by decide) rfl (fun ls hl => ?_)
    refine lv_goto (tgt := 15) hx hb dX2_countHiddenOf_86 (by decide) ?_
    exact HK_15 x1 x3 (x4 + (1 : Int32)) x5 (x6 + (1 : Int32)) H locs ls hP hD hS (lv_sub hl [2, 3, 4, 1, 5, 0] rfl) hF
def L_X2_countHiddenOf_35 (t_pulses : Int32) (t_sent : Nat → Int32) (k_15 : Int32 → Int32 → Int32 → Int32 → Int32 → Option (Int32)) : Nat → Int32 → Int32 → Int32 → Int32 → Int32 → Int32 → Option (Int32)
  | 0, _, _, _, _, _, _ => none
  | n_ + 1, x1, x3, x4, x5, x6, x7 =>
    if t_pulses ≤ (x5 + (1 : Int32)) then (J_X2_countHiddenOf_66 t_pulses t_sent k_15 x1 x3 x4 x5 x6 x7) else (gd_ (in_b (x5 + (1 : Int32)) 65) (if x7 < (t_sent (x5 + (1 : Int32)).toNatClampNeg) then (J_X2_countHiddenOf_66 t_pulses t_sent k_15 x1 x3 x4 x5 x6 x7) else (L_X2_countHiddenOf_35 t_pulses t_sent k_15 n_ x1 x3 x4 (x5 + (1 : Int32)) x6 x7)))
set_option maxHeartbeats 4000000 in
set_option maxRecDepth 100000 in
theorem w_X2_countHiddenOf_35 {p : Program} {l : Launch} {e : Env} {s : State} {m : MethodId} {args : Array Value} {below : List Frame} {meth : Method} {c : Code} {D : va_G} {K : Nat → ClassId} {A : Nat → Prop} {Q : State → Prop} (C0 : cx_ p s m args c cX2_countHiddenOf 8 RX2 wsX2_countHiddenOf D K A) {g_t : Nat → Nat} {t_rowSize : Int32} {t_pulses : Int32} {t_fewest : Int32} {t_sent : Nat → Int32} {res : Int32} (HR : ∀ (pc : Nat) (H : Heap) (locs : List Loc) (ls : Array Slot), decode cX2_countHiddenOf pc = .ok (.ireturn, 1) → va_P D vwCl (w_X2_countHiddenOf K g_t t_rowSize t_pulses t_fewest t_sent) H → va_D A (w_X2_countHiddenOf K g_t t_rowSize t_pulses t_fewest t_sent) → va_S A s.heap H locs → W p l e rmX2_countHiddenOf s m args below meth c H locs 0 0 Q (F0 m pc ls [.int res])) {k_15 : Int32 → Int32 → Int32 → Int32 → Int32 → Option (Int32)} (HK_15 : ∀ (x1 : Int32) (x3 : Int32) (x4 : Int32) (x5 : Int32) (x6 : Int32) (H : Heap) (locs : List Loc) (ls : Array Slot), va_P D vwCl (w_X2_countHiddenOf K g_t t_rowSize t_pulses t_fewest t_sent) H → va_D A (w_X2_countHiddenOf K g_t t_rowSize t_pulses t_fewest t_sent) → va_S A s.heap H locs → lv_has ls 8 [(0, .ref (g_t 0)), (1, .int x1), (3, .int x3), (4, .int x4), (5, .int x5), (6, .int x6)] → k_15 x1 x3 x4 x5 x6 = some res → W p l e rmX2_countHiddenOf s m args below meth c H locs 0 0 Q (F0 m 15 ls [])) :
    ∀ (n_ : Nat) (x1 : Int32) (x3 : Int32) (x4 : Int32) (x5 : Int32) (x6 : Int32) (x7 : Int32) (H : Heap) (locs : List Loc) (ls : Array Slot), va_P D vwCl (w_X2_countHiddenOf K g_t t_rowSize t_pulses t_fewest t_sent) H → va_D A (w_X2_countHiddenOf K g_t t_rowSize t_pulses t_fewest t_sent) → va_S A s.heap H locs → lv_has ls 8 [(0, .ref (g_t 0)), (1, .int x1), (3, .int x3), (4, .int x4), (5, .int x5), (6, .int x6), (7, .int x7)] → L_X2_countHiddenOf_35 t_pulses t_sent k_15 n_ x1 x3 x4 x5 x6 x7 = some res → W p l e rmX2_countHiddenOf s m args below meth c H locs 0 0 Q (F0 m 35 ls []) := by
  obtain ⟨⟨hx, hb, hml, hown, hts⟩, hK, -⟩ := id C0
  intro n_
  induction n_ with
  | zero =>
    intro x1 x3 x4 x5 x6 x7 H locs ls hP hD hS hl hF
    exact no_s (show (none : Option (Int32)) = some res from hF)
  | succ n_ ih =>
    intro x1 x3 x4 x5 x6 x7 H locs ls hP hD hS hl hF
    rw [L_X2_countHiddenOf_35] at hF
    refine lv_iload hx hb dX2_countHiddenOf_35 (lv_at hl 4 rfl) ?_
    refine lv_iconst (v := 1) hx hb dX2_countHiddenOf_37 (by decide) ?_
    refine lv_iadd hx hb dX2_countHiddenOf_38 ?_
    refine lv_aload_n hx hb dX2_countHiddenOf_39 rfl (lv_at hl 0 rfl) ?_
    refine va_get (D := D) (ci := 2) (v := .int t_pulses) (C := RX2) (T := TX2) (N := 6) hx hb hts iw_X2_countHiddenOf_X2 hown hK hP 0 rfl rfl 3 (by decide) (hts _ fl_X2_countHiddenOf_39) (fun _ h9 => h9) rfl dX2_countHiddenOf_40 ?_
    refine lv_icmp_ge (tgt := 66) hx hb dX2_countHiddenOf_43 (by decide) (fun c_1 => ?_) (fun c_1 => ?_)
    · have hF := it_pos c_1 hF
      exact w_X2_countHiddenOf_66 C0 HR HK_15 x1 x3 x4 x5 x6 x7 H locs ls hP hD hS (lv_sub hl [0, 1, 2, 3, 4, 5, 6] rfl) hF
    · have hF := it_neg c_1 hF
      refine lv_aload_n hx hb dX2_countHiddenOf_46 rfl (lv_at hl 0 rfl) ?_
      refine va_get (D := D) (ci := 2) (v := .ref (g_t 3)) (C := RX2) (T := TX2) (N := 6) hx hb hts iw_X2_countHiddenOf_X2 hown hK hP 0 rfl rfl 2 (by decide) (hts _ fl_X2_countHiddenOf_15) (fun _ h9 => h9) rfl dX2_countHiddenOf_47 ?_
      refine lv_iload hx hb dX2_countHiddenOf_50 (lv_at hl 4 rfl) ?_
      refine lv_iconst (v := 1) hx hb dX2_countHiddenOf_52 (by decide) ?_
      refine lv_iadd hx hb dX2_countHiddenOf_53 ?_
      obtain ⟨hg_2, hF⟩ := gd_some hF
      refine xl_i (f := t_sent) hx hb hK hP 1 0 rfl rfl rfl (in_v hg_2) dX2_countHiddenOf_54 ?_
      refine lv_iload hx hb dX2_countHiddenOf_55 (lv_at hl 6 rfl) ?_
      refine lv_icmp_gt (tgt := 66) hx hb dX2_countHiddenOf_57 (by decide) (fun c_3 => ?_) (fun c_3 => ?_)
      · have hF := it_pos c_3 hF
        exact w_X2_countHiddenOf_66 C0 HR HK_15 x1 x3 x4 x5 x6 x7 H locs ls hP hD hS (lv_sub hl [0, 1, 2, 3, 4, 5, 6] rfl) hF
      · have hF := it_neg c_3 hF
        refine lv_iinc (v := (x5 + (1 : Int32))) (lv' := [(5, .int (x5 + (1 : Int32))), (0, .ref (g_t 0)), (1, .int x1), (3, .int x3), (4, .int x4), (6, .int x6), (7, .int x7)]) hx hb dX2_countHiddenOf_60 hl (k := 4) rfl (congrArg (fun z => x5 + z) (by decide)) (by decide) rfl (fun ls hl => ?_)
        refine lv_goto (tgt := 35) hx hb dX2_countHiddenOf_63 (by decide) ?_
        exact ih x1 x3 x4 (x5 + (1 : Int32)) x6 x7 H locs ls hP hD hS (lv_sub hl [1, 2, 3, 4, 0, 5, 6] rfl) hF
def L_X2_countHiddenOf_15 (t_pulses : Int32) (t_sent : Nat → Int32) : Nat → Int32 → Int32 → Int32 → Int32 → Int32 → Option (Int32)
  | 0, _, _, _, _, _ => none
  | n_ + 1, x1, x3, x4, x5, x6 =>
    if t_pulses ≤ x6 then (some x4) else (gd_ (in_b x6 65) (L_X2_countHiddenOf_35 t_pulses t_sent (L_X2_countHiddenOf_15 t_pulses t_sent n_) fu_ x1 x3 x4 x5 x6 ((t_sent (x6).toNatClampNeg) + x1)))
set_option maxHeartbeats 4000000 in
set_option maxRecDepth 100000 in
theorem w_X2_countHiddenOf_15 {p : Program} {l : Launch} {e : Env} {s : State} {m : MethodId} {args : Array Value} {below : List Frame} {meth : Method} {c : Code} {D : va_G} {K : Nat → ClassId} {A : Nat → Prop} {Q : State → Prop} (C0 : cx_ p s m args c cX2_countHiddenOf 8 RX2 wsX2_countHiddenOf D K A) {g_t : Nat → Nat} {t_rowSize : Int32} {t_pulses : Int32} {t_fewest : Int32} {t_sent : Nat → Int32} {res : Int32} (HR : ∀ (pc : Nat) (H : Heap) (locs : List Loc) (ls : Array Slot), decode cX2_countHiddenOf pc = .ok (.ireturn, 1) → va_P D vwCl (w_X2_countHiddenOf K g_t t_rowSize t_pulses t_fewest t_sent) H → va_D A (w_X2_countHiddenOf K g_t t_rowSize t_pulses t_fewest t_sent) → va_S A s.heap H locs → W p l e rmX2_countHiddenOf s m args below meth c H locs 0 0 Q (F0 m pc ls [.int res]))  :
    ∀ (n_ : Nat) (x1 : Int32) (x3 : Int32) (x4 : Int32) (x5 : Int32) (x6 : Int32) (H : Heap) (locs : List Loc) (ls : Array Slot), va_P D vwCl (w_X2_countHiddenOf K g_t t_rowSize t_pulses t_fewest t_sent) H → va_D A (w_X2_countHiddenOf K g_t t_rowSize t_pulses t_fewest t_sent) → va_S A s.heap H locs → lv_has ls 8 [(0, .ref (g_t 0)), (1, .int x1), (3, .int x3), (4, .int x4), (5, .int x5), (6, .int x6)] → L_X2_countHiddenOf_15 t_pulses t_sent n_ x1 x3 x4 x5 x6 = some res → W p l e rmX2_countHiddenOf s m args below meth c H locs 0 0 Q (F0 m 15 ls []) := by
  obtain ⟨⟨hx, hb, hml, hown, hts⟩, hK, -⟩ := id C0
  intro n_
  induction n_ with
  | zero =>
    intro x1 x3 x4 x5 x6 H locs ls hP hD hS hl hF
    exact no_s (show (none : Option (Int32)) = some res from hF)
  | succ n_ ih =>
    intro x1 x3 x4 x5 x6 H locs ls hP hD hS hl hF
    rw [L_X2_countHiddenOf_15] at hF
    refine lv_iload hx hb dX2_countHiddenOf_15 (lv_at hl 5 rfl) ?_
    refine lv_aload_n hx hb dX2_countHiddenOf_17 rfl (lv_at hl 0 rfl) ?_
    refine va_get (D := D) (ci := 2) (v := .int t_pulses) (C := RX2) (T := TX2) (N := 6) hx hb hts iw_X2_countHiddenOf_X2 hown hK hP 0 rfl rfl 3 (by decide) (hts _ fl_X2_countHiddenOf_39) (fun _ h9 => h9) rfl dX2_countHiddenOf_18 ?_
    refine lv_icmp_ge (tgt := 89) hx hb dX2_countHiddenOf_21 (by decide) (fun c_1 => ?_) (fun c_1 => ?_)
    · have hF := it_pos c_1 hF
      refine lv_iload hx hb dX2_countHiddenOf_89 (lv_at hl 3 rfl) ?_
      obtain rfl := Option.some.inj hF
      exact HR 91 H locs ls dX2_countHiddenOf_91 hP hD hS
    · have hF := it_neg c_1 hF
      refine lv_aload_n hx hb dX2_countHiddenOf_24 rfl (lv_at hl 0 rfl) ?_
      refine va_get (D := D) (ci := 2) (v := .ref (g_t 3)) (C := RX2) (T := TX2) (N := 6) hx hb hts iw_X2_countHiddenOf_X2 hown hK hP 0 rfl rfl 2 (by decide) (hts _ fl_X2_countHiddenOf_15) (fun _ h9 => h9) rfl dX2_countHiddenOf_25 ?_
      refine lv_iload hx hb dX2_countHiddenOf_28 (lv_at hl 5 rfl) ?_
      obtain ⟨hg_2, hF⟩ := gd_some hF
      refine xl_i (f := t_sent) hx hb hK hP 1 0 rfl rfl rfl (in_v hg_2) dX2_countHiddenOf_30 ?_
      refine lv_iload_n hx hb dX2_countHiddenOf_31 rfl (lv_at hl 1 rfl) ?_
      refine lv_iadd hx hb dX2_countHiddenOf_32 ?_
      refine lv_istore (lv' := [(7, .int ((t_sent (x6).toNatClampNeg) + x1)), (0, .ref (g_t 0)), (1, .int x1), (3, .int x3), (4, .int x4), (5, .int x5), (6, .int x6)]) hx hb dX2_countHiddenOf_33 hl (by decide) rfl (fun ls hl => ?_)
      exact w_X2_countHiddenOf_35 C0 HR ih fu_ x1 x3 x4 x5 x6 ((t_sent (x6).toNatClampNeg) + x1) H locs ls hP hD hS (lv_sub hl [1, 2, 3, 4, 5, 6, 0] rfl) hF
def F_X2_countHiddenOf (t_pulses : Int32) (t_sent : Nat → Int32) (x1 : Int32) (x2 : Int32) : Option (Int32) :=
  L_X2_countHiddenOf_15 t_pulses t_sent fu_ x1 (if x2 < (1 : Int32) then (1 : Int32) else x2) (0 : Int32) (0 : Int32) (0 : Int32)
set_option maxHeartbeats 4000000 in
set_option maxRecDepth 100000 in
theorem c_X2_countHiddenOf (l : Launch) (D : va_G) (K : Nat → ClassId) (g_t : Nat → Nat) (t_rowSize : Int32) (t_pulses : Int32) (t_fewest : Int32) (t_sent : Nat → Int32) (x1 : Int32) (x2 : Int32) (res : Int32) (hF : F_X2_countHiddenOf t_pulses t_sent x1 x2 = some res) :
    Mi_ l yX2_countHiddenOf wsX2_countHiddenOf rmX2_countHiddenOf D K [.ref (g_t 0), .int x1, .int x2] (w_X2_countHiddenOf K g_t t_rowSize t_pulses t_fewest t_sent) (w_X2_countHiddenOf K g_t t_rowSize t_pulses t_fewest t_sent) (res) := by
  refine en_i (cc := cX2_countHiddenOf) (maxL := 8) (own := RX2) (by decide) rfl rfl (Nat.le_of_ble_eq_true rfl) ?_
  intro p e s m args below meth c A Q H locs ls C0 hP hD hS hl HR
  obtain ⟨⟨hx, hb, hml, hown, hts⟩, hK, -⟩ := id C0
  have hl : lv_has ls 8 [(0, .ref (g_t 0)), (1, .int x1), (2, .int x2)] := hl
  unfold F_X2_countHiddenOf at hF
  refine lv_iload_n hx hb dX2_countHiddenOf_0 rfl (lv_at hl 2 rfl) ?_
  refine lv_iconst (v := 1) hx hb dX2_countHiddenOf_1 (by decide) ?_
  refine va_mmax hx hb (hml.trans hl.1.symm) hown (hts (.methodLink RX2 47 Lib.Math.max.name) (by decide +kernel)) (hts (.static Lib.Math.max.name) (by decide +kernel)) (hts (.initialized "java/lang/Math") (by decide +kernel)) (hts (.code Lib.Math.max.name Lib.Math.max.code 2 (some .int)) (by decide +kernel)) (Nat.le_of_ble_eq_true rfl) (Nat.le_of_ble_eq_true rfl) (Nat.le_of_ble_eq_true rfl) (Nat.le_of_ble_eq_true rfl) dX2_countHiddenOf_2 ?_
  refine lv_istore_n (lv' := [(3, .int (if x2 < (1 : Int32) then (1 : Int32) else x2)), (0, .ref (g_t 0)), (1, .int x1), (2, .int x2)]) hx hb dX2_countHiddenOf_5 rfl hl (by decide) rfl (fun ls hl => ?_)
  refine lv_iconst (v := 0) hx hb dX2_countHiddenOf_6 (by decide) ?_
  refine lv_istore (lv' := [(4, .int (0 : Int32)), (3, .int (if x2 < (1 : Int32) then (1 : Int32) else x2)), (0, .ref (g_t 0)), (1, .int x1), (2, .int x2)]) hx hb dX2_countHiddenOf_7 hl (by decide) rfl (fun ls hl => ?_)
  refine lv_iconst (v := 0) hx hb dX2_countHiddenOf_9 (by decide) ?_
  refine lv_istore (lv' := [(5, .int (0 : Int32)), (4, .int (0 : Int32)), (3, .int (if x2 < (1 : Int32) then (1 : Int32) else x2)), (0, .ref (g_t 0)), (1, .int x1), (2, .int x2)]) hx hb dX2_countHiddenOf_10 hl (by decide) rfl (fun ls hl => ?_)
  refine lv_iconst (v := 0) hx hb dX2_countHiddenOf_12 (by decide) ?_
  refine lv_istore (lv' := [(6, .int (0 : Int32)), (5, .int (0 : Int32)), (4, .int (0 : Int32)), (3, .int (if x2 < (1 : Int32) then (1 : Int32) else x2)), (0, .ref (g_t 0)), (1, .int x1), (2, .int x2)]) hx hb dX2_countHiddenOf_13 hl (by decide) rfl (fun ls hl => ?_)
  exact w_X2_countHiddenOf_15 C0 HR fu_ x1 (if x2 < (1 : Int32) then (1 : Int32) else x2) (0 : Int32) (0 : Int32) (0 : Int32) H locs ls hP hD hS (lv_sub hl [4, 5, 3, 2, 1, 0] rfl) hF

/-! StaggerRadar.Dwell.countHidden(LStaggerRadar$Radar;I)I -/
abbrev rmX2_countHidden : Room := { frames := 2, cells := 0, slots := 0, locals := 48 }
theorem fl_X2_countHidden_52 : Cond.fieldLink RX2 52 "StaggerRadar$Radar" "targetCount" "I" ∈ wsX2_countHidden := by decide +kernel
theorem fl_X2_countHidden_59 : Cond.fieldLink RX2 59 "StaggerRadar$Radar" "settings" "[I" ∈ wsX2_countHidden := by decide +kernel
theorem iw_X2_countHidden_X2 : ∀ w ∈ u_ws RX2 TX2 6, w ∈ wsX2_countHidden := by decide +kernel
theorem iw_X2_countHidden_X5 : ∀ w ∈ u_ws RX5 TX5 13, w ∈ wsX2_countHidden := by decide +kernel
abbrev w_X2_countHidden (K : Nat → ClassId) (g_t : Nat → Nat) (g_p1 : Nat → Nat) (t_rowSize : Int32) (t_pulses : Int32) (t_fewest : Int32) (t_sent : Nat → Int32) (p1_gapCount : Int32) (p1_targetCount : Int32) (p1_lookCount : Int32) (p1_time : Int32) (p1_gone : Int32) (p1_settings : Nat → Int32) (p1_spots : Nat → Int32) : va_W := [((g_t 0), .inr (2, [.ref (g_t 1), .int t_rowSize, .ref (g_t 3), .int t_pulses, .ref (g_t 5), .int t_fewest])), ((g_t 3), .inl (K 0, 65, .inl t_sent)), ((g_p1 0), .inr (5, [.ref (g_p1 1), .ref (g_p1 2), .ref (g_p1 3), .ref (g_p1 4), .ref (g_p1 5), .ref (g_p1 6), .ref (g_p1 7), .ref (g_p1 8), .int p1_gapCount, .int p1_targetCount, .int p1_lookCount, .int p1_time, .int p1_gone])), ((g_p1 2), .inl (K 0, 7, .inl p1_settings)), ((g_p1 3), .inl (K 0, 8, .inl p1_spots))]
def L_X2_countHidden_5 (t_pulses : Int32) (t_sent : Nat → Int32) (p1_targetCount : Int32) (p1_settings : Nat → Int32) (p1_spots : Nat → Int32) : Nat → Int32 → Int32 → Int32 → Option (Int32)
  | 0, _, _, _ => none
  | n_ + 1, x2, x3, x4 =>
    if p1_targetCount ≤ x4 then (some x3) else (if x2 ≤ x3 then (some x3) else ((F_X5_rangeOf p1_spots x4).bind fun r_3 => ((F_X2_countHiddenOf t_pulses t_sent r_3 (p1_settings 2)).bind fun r_5 => (L_X2_countHidden_5 t_pulses t_sent p1_targetCount p1_settings p1_spots n_ x2 (x3 + r_5) (x4 + (1 : Int32))))))
set_option maxHeartbeats 4000000 in
set_option maxRecDepth 100000 in
theorem w_X2_countHidden_5 {p : Program} {l : Launch} {e : Env} {s : State} {m : MethodId} {args : Array Value} {below : List Frame} {meth : Method} {c : Code} {D : va_G} {K : Nat → ClassId} {A : Nat → Prop} {Q : State → Prop} (C0 : cx_ p s m args c cX2_countHidden 5 RX2 wsX2_countHidden D K A) {g_t : Nat → Nat} {g_p1 : Nat → Nat} {t_rowSize : Int32} {t_pulses : Int32} {t_fewest : Int32} {t_sent : Nat → Int32} {p1_gapCount : Int32} {p1_targetCount : Int32} {p1_lookCount : Int32} {p1_time : Int32} {p1_gone : Int32} {p1_settings : Nat → Int32} {p1_spots : Nat → Int32} {res : Int32} (HR : ∀ (pc : Nat) (H : Heap) (locs : List Loc) (ls : Array Slot), decode cX2_countHidden pc = .ok (.ireturn, 1) → va_P D vwCl (w_X2_countHidden K g_t g_p1 t_rowSize t_pulses t_fewest t_sent p1_gapCount p1_targetCount p1_lookCount p1_time p1_gone p1_settings p1_spots) H → va_D A (w_X2_countHidden K g_t g_p1 t_rowSize t_pulses t_fewest t_sent p1_gapCount p1_targetCount p1_lookCount p1_time p1_gone p1_settings p1_spots) → va_S A s.heap H locs → W p l e rmX2_countHidden s m args below meth c H locs 0 0 Q (F0 m pc ls [.int res]))  :
    ∀ (n_ : Nat) (x2 : Int32) (x3 : Int32) (x4 : Int32) (H : Heap) (locs : List Loc) (ls : Array Slot), va_P D vwCl (w_X2_countHidden K g_t g_p1 t_rowSize t_pulses t_fewest t_sent p1_gapCount p1_targetCount p1_lookCount p1_time p1_gone p1_settings p1_spots) H → va_D A (w_X2_countHidden K g_t g_p1 t_rowSize t_pulses t_fewest t_sent p1_gapCount p1_targetCount p1_lookCount p1_time p1_gone p1_settings p1_spots) → va_S A s.heap H locs → lv_has ls 5 [(0, .ref (g_t 0)), (1, .ref (g_p1 0)), (2, .int x2), (3, .int x3), (4, .int x4)] → L_X2_countHidden_5 t_pulses t_sent p1_targetCount p1_settings p1_spots n_ x2 x3 x4 = some res → W p l e rmX2_countHidden s m args below meth c H locs 0 0 Q (F0 m 5 ls []) := by
  obtain ⟨⟨hx, hb, hml, hown, hts⟩, hK, -⟩ := id C0
  intro n_
  induction n_ with
  | zero =>
    intro x2 x3 x4 H locs ls hP hD hS hl hF
    exact no_s (show (none : Option (Int32)) = some res from hF)
  | succ n_ ih =>
    intro x2 x3 x4 H locs ls hP hD hS hl hF
    rw [L_X2_countHidden_5] at hF
    refine lv_iload hx hb dX2_countHidden_5 (lv_at hl 4 rfl) ?_
    refine lv_aload_n hx hb dX2_countHidden_7 rfl (lv_at hl 1 rfl) ?_
    refine va_get (D := D) (ci := 5) (v := .int p1_targetCount) (C := RX5) (T := TX5) (N := 13) hx hb hts iw_X2_countHidden_X5 hown hK hP 2 rfl rfl 9 (by decide) (hts _ fl_X2_countHidden_52) (fun _ h9 => h9) rfl dX2_countHidden_8 ?_
    refine lv_icmp_ge (tgt := 44) hx hb dX2_countHidden_11 (by decide) (fun c_1 => ?_) (fun c_1 => ?_)
    · have hF := it_pos c_1 hF
      refine lv_iload_n hx hb dX2_countHidden_44 rfl (lv_at hl 3 rfl) ?_
      obtain rfl := Option.some.inj hF
      exact HR 45 H locs ls dX2_countHidden_45 hP hD hS
    · have hF := it_neg c_1 hF
      refine lv_iload_n hx hb dX2_countHidden_14 rfl (lv_at hl 3 rfl) ?_
      refine lv_iload_n hx hb dX2_countHidden_15 rfl (lv_at hl 2 rfl) ?_
      refine lv_icmp_ge (tgt := 44) hx hb dX2_countHidden_16 (by decide) (fun c_2 => ?_) (fun c_2 => ?_)
      · have hF := it_pos c_2 hF
        refine lv_iload_n hx hb dX2_countHidden_44 rfl (lv_at hl 3 rfl) ?_
        obtain rfl := Option.some.inj hF
        exact HR 45 H locs ls dX2_countHidden_45 hP hD hS
      · have hF := it_neg c_2 hF
        refine lv_iload_n hx hb dX2_countHidden_19 rfl (lv_at hl 3 rfl) ?_
        refine lv_aload_n hx hb dX2_countHidden_20 rfl (lv_at hl 0 rfl) ?_
        refine lv_aload_n hx hb dX2_countHidden_21 rfl (lv_at hl 1 rfl) ?_
        refine lv_iload hx hb dX2_countHidden_22 (lv_at hl 4 rfl) ?_
        obtain ⟨r_3, hc_4, hF⟩ := bn_some hF
        refine xc_i (wn := (w_X2_countHidden K g_t g_p1 t_rowSize t_pulses t_fewest t_sent p1_gapCount p1_targetCount p1_lookCount p1_time p1_gone p1_settings p1_spots)) hP hD hS C0.2.2.1 [2, 4] [0, 1, 3] [0, 1, 3, 2, 4] rfl rfl (by decide) (by decide) rfl (by decide) (va_runV (As := [.int x4]) (rest := [.ref (g_t 0), .int x3]) C0.1 (c_X5_rangeOf l D K g_p1 p1_gapCount p1_targetCount p1_lookCount p1_time p1_gone p1_spots x4 r_3 hc_4 H.size) (cwV 1 hts gX2_countHidden_X5_rangeOf rfl rfl rfl (by decide +kernel) ⟨Nat.le_of_ble_eq_true rfl, Nat.le_of_ble_eq_true rfl⟩) (xp_V C0.2 hP hD hS [2, 4] rfl (by decide) 5 0 rfl rfl rfl) rfl rfl hl.1 rfl (lv_room (Nat.le_of_ble_eq_true rfl)) dX2_countHidden_24 ⟨Nat.le_of_ble_eq_true rfl, Nat.le_of_ble_eq_true rfl⟩) (fun H locs hP hD hS => ?_)
        refine lv_aload_n hx hb dX2_countHidden_27 rfl (lv_at hl 1 rfl) ?_
        refine va_get (D := D) (ci := 5) (v := .ref (g_p1 2)) (C := RX5) (T := TX5) (N := 13) hx hb hts iw_X2_countHidden_X5 hown hK hP 2 rfl rfl 1 (by decide) (hts _ fl_X2_countHidden_59) (fun _ h9 => h9) rfl dX2_countHidden_28 ?_
        refine lv_iconst (v := 2) hx hb dX2_countHidden_31 (by decide) ?_
        refine xl_i (f := p1_settings) hx hb hK hP 3 0 rfl rfl (k := 2) (by decide) (in_v (by decide)) dX2_countHidden_32 ?_
        obtain ⟨r_5, hc_6, hF⟩ := bn_some hF
        refine xc_i (wn := (w_X2_countHidden K g_t g_p1 t_rowSize t_pulses t_fewest t_sent p1_gapCount p1_targetCount p1_lookCount p1_time p1_gone p1_settings p1_spots)) hP hD hS C0.2.2.1 [0, 1] [2, 3, 4] [3, 4, 0, 1, 2] rfl rfl (by decide) (by decide) rfl (by decide) (va_runV (As := [.int r_3, .int (p1_settings 2)]) (rest := [.int x3]) C0.1 (c_X2_countHiddenOf l D K g_t t_rowSize t_pulses t_fewest t_sent r_3 (p1_settings 2) r_5 hc_6 H.size) (cwV 2 hts gX2_countHidden_X2_countHiddenOf rfl rfl rfl (by decide +kernel) ⟨Nat.le_of_ble_eq_true rfl, Nat.le_of_ble_eq_true rfl⟩) (xp_V C0.2 hP hD hS [0, 1] rfl (by decide) 2 0 rfl rfl rfl) rfl rfl hl.1 rfl (lv_room (Nat.le_of_ble_eq_true rfl)) dX2_countHidden_33 ⟨Nat.le_of_ble_eq_true rfl, Nat.le_of_ble_eq_true rfl⟩) (fun H locs hP hD hS => ?_)
        refine lv_iadd hx hb dX2_countHidden_36 ?_
        refine lv_istore_n (lv' := [(3, .int (x3 + r_5)), (0, .ref (g_t 0)), (1, .ref (g_p1 0)), (2, .int x2), (4, .int x4)]) hx hb dX2_countHidden_37 rfl hl (by decide) rfl (fun ls hl => ?_)
        refine lv_iinc (v := (x4 + (1 : Int32))) (lv' := [(4, .int (x4 + (1 : Int32))), (3, .int (x3 + r_5)), (0, .ref (g_t 0)), (1, .ref (g_p1 0)), (2, .int x2)]) hx hb dX2_countHidden_38 hl (k := 4) rfl (congrArg (fun z => x4 + z) (by decide)) (by decide) rfl (fun ls hl => ?_)
        refine lv_goto (tgt := 5) hx hb dX2_countHidden_41 (by decide) ?_
        exact ih x2 (x3 + r_5) (x4 + (1 : Int32)) H locs ls hP hD hS (lv_sub hl [2, 3, 4, 1, 0] rfl) hF
def F_X2_countHidden (t_pulses : Int32) (t_sent : Nat → Int32) (p1_targetCount : Int32) (p1_settings : Nat → Int32) (p1_spots : Nat → Int32) (x2 : Int32) : Option (Int32) :=
  L_X2_countHidden_5 t_pulses t_sent p1_targetCount p1_settings p1_spots fu_ x2 (0 : Int32) (0 : Int32)
set_option maxHeartbeats 4000000 in
set_option maxRecDepth 100000 in
theorem c_X2_countHidden (l : Launch) (D : va_G) (K : Nat → ClassId) (g_t : Nat → Nat) (g_p1 : Nat → Nat) (t_rowSize : Int32) (t_pulses : Int32) (t_fewest : Int32) (t_sent : Nat → Int32) (p1_gapCount : Int32) (p1_targetCount : Int32) (p1_lookCount : Int32) (p1_time : Int32) (p1_gone : Int32) (p1_settings : Nat → Int32) (p1_spots : Nat → Int32) (x2 : Int32) (res : Int32) (hF : F_X2_countHidden t_pulses t_sent p1_targetCount p1_settings p1_spots x2 = some res) :
    Mi_ l yX2_countHidden wsX2_countHidden rmX2_countHidden D K [.ref (g_t 0), .ref (g_p1 0), .int x2] (w_X2_countHidden K g_t g_p1 t_rowSize t_pulses t_fewest t_sent p1_gapCount p1_targetCount p1_lookCount p1_time p1_gone p1_settings p1_spots) (w_X2_countHidden K g_t g_p1 t_rowSize t_pulses t_fewest t_sent p1_gapCount p1_targetCount p1_lookCount p1_time p1_gone p1_settings p1_spots) (res) := by
  refine en_i (cc := cX2_countHidden) (maxL := 5) (own := RX2) (by decide) rfl rfl (Nat.le_of_ble_eq_true rfl) ?_
  intro p e s m args below meth c A Q H locs ls C0 hP hD hS hl HR
  obtain ⟨⟨hx, hb, hml, hown, hts⟩, hK, -⟩ := id C0
  have hl : lv_has ls 5 [(0, .ref (g_t 0)), (1, .ref (g_p1 0)), (2, .int x2)] := hl
  unfold F_X2_countHidden at hF
  refine lv_iconst (v := 0) hx hb dX2_countHidden_0 (by decide) ?_
  refine lv_istore_n (lv' := [(3, .int (0 : Int32)), (0, .ref (g_t 0)), (1, .ref (g_p1 0)), (2, .int x2)]) hx hb dX2_countHidden_1 rfl hl (by decide) rfl (fun ls hl => ?_)
  refine lv_iconst (v := 0) hx hb dX2_countHidden_2 (by decide) ?_
  refine lv_istore (lv' := [(4, .int (0 : Int32)), (3, .int (0 : Int32)), (0, .ref (g_t 0)), (1, .ref (g_p1 0)), (2, .int x2)]) hx hb dX2_countHidden_3 hl (by decide) rfl (fun ls hl => ?_)
  exact w_X2_countHidden_5 C0 HR fu_ x2 (0 : Int32) (0 : Int32) H locs ls hP hD hS (lv_sub hl [2, 3, 4, 1, 0] rfl) hF

/-! StaggerRadar.Dwell.countClear(LStaggerRadar$Radar;)I -/
abbrev rmX2_countClear : Room := { frames := 1, cells := 0, slots := 0, locals := 21 }
theorem fl_X2_countClear_15 : Cond.fieldLink RX2 15 "StaggerRadar$Dwell" "sent" "[I" ∈ wsX2_countClear := by decide +kernel
theorem fl_X2_countClear_39 : Cond.fieldLink RX2 39 "StaggerRadar$Dwell" "pulses" "I" ∈ wsX2_countClear := by decide +kernel
theorem fl_X2_countClear_52 : Cond.fieldLink RX2 52 "StaggerRadar$Radar" "targetCount" "I" ∈ wsX2_countClear := by decide +kernel
theorem iw_X2_countClear_X2 : ∀ w ∈ u_ws RX2 TX2 6, w ∈ wsX2_countClear := by decide +kernel
theorem iw_X2_countClear_X5 : ∀ w ∈ u_ws RX5 TX5 13, w ∈ wsX2_countClear := by decide +kernel
abbrev w_X2_countClear (K : Nat → ClassId) (g_t : Nat → Nat) (g_p1 : Nat → Nat) (t_rowSize : Int32) (t_pulses : Int32) (t_fewest : Int32) (t_sent : Nat → Int32) (p1_gapCount : Int32) (p1_targetCount : Int32) (p1_lookCount : Int32) (p1_time : Int32) (p1_gone : Int32) (p1_spots : Nat → Int32) : va_W := [((g_t 0), .inr (2, [.ref (g_t 1), .int t_rowSize, .ref (g_t 3), .int t_pulses, .ref (g_t 5), .int t_fewest])), ((g_t 3), .inl (K 0, 65, .inl t_sent)), ((g_p1 0), .inr (5, [.ref (g_p1 1), .ref (g_p1 2), .ref (g_p1 3), .ref (g_p1 4), .ref (g_p1 5), .ref (g_p1 6), .ref (g_p1 7), .ref (g_p1 8), .int p1_gapCount, .int p1_targetCount, .int p1_lookCount, .int p1_time, .int p1_gone])), ((g_p1 3), .inl (K 0, 8, .inl p1_spots))]
def L_X2_countClear_15 (t_pulses : Int32) (t_sent : Nat → Int32) (p1_targetCount : Int32) (p1_spots : Nat → Int32) (k_4 : Int32 → Int32 → Option (Int32)) : Nat → Int32 → Int32 → Int32 → Option (Int32)
  | 0, _, _, _ => none
  | n_ + 1, x2, x3, x4 =>
    if t_pulses ≤ x4 then (k_4 x2 (x3 + (1 : Int32))) else (gd_ (in_b x4 65) ((F_X5_rangeOf p1_spots x3).bind fun r_3 => (gd_ (in_b (x4 + (1 : Int32)) 65) (if (t_sent (x4 + (1 : Int32)).toNatClampNeg) ≤ ((t_sent (x4).toNatClampNeg) + r_3) then (L_X2_countClear_15 t_pulses t_sent p1_targetCount p1_spots k_4 n_ x2 x3 (x4 + (1 : Int32))) else (L_X2_countClear_15 t_pulses t_sent p1_targetCount p1_spots k_4 n_ (x2 + (1 : Int32)) x3 (x4 + (1 : Int32)))))))
set_option maxHeartbeats 4000000 in
set_option maxRecDepth 100000 in
theorem w_X2_countClear_15 {p : Program} {l : Launch} {e : Env} {s : State} {m : MethodId} {args : Array Value} {below : List Frame} {meth : Method} {c : Code} {D : va_G} {K : Nat → ClassId} {A : Nat → Prop} {Q : State → Prop} (C0 : cx_ p s m args c cX2_countClear 5 RX2 wsX2_countClear D K A) {g_t : Nat → Nat} {g_p1 : Nat → Nat} {t_rowSize : Int32} {t_pulses : Int32} {t_fewest : Int32} {t_sent : Nat → Int32} {p1_gapCount : Int32} {p1_targetCount : Int32} {p1_lookCount : Int32} {p1_time : Int32} {p1_gone : Int32} {p1_spots : Nat → Int32} {res : Int32} (HR : ∀ (pc : Nat) (H : Heap) (locs : List Loc) (ls : Array Slot), decode cX2_countClear pc = .ok (.ireturn, 1) → va_P D vwCl (w_X2_countClear K g_t g_p1 t_rowSize t_pulses t_fewest t_sent p1_gapCount p1_targetCount p1_lookCount p1_time p1_gone p1_spots) H → va_D A (w_X2_countClear K g_t g_p1 t_rowSize t_pulses t_fewest t_sent p1_gapCount p1_targetCount p1_lookCount p1_time p1_gone p1_spots) → va_S A s.heap H locs → W p l e rmX2_countClear s m args below meth c H locs 0 0 Q (F0 m pc ls [.int res])) {k_4 : Int32 → Int32 → Option (Int32)} (HK_4 : ∀ (x2 : Int32) (x3 : Int32) (H : Heap) (locs : List Loc) (ls : Array Slot), va_P D vwCl (w_X2_countClear K g_t g_p1 t_rowSize t_pulses t_fewest t_sent p1_gapCount p1_targetCount p1_lookCount p1_time p1_gone p1_spots) H → va_D A (w_X2_countClear K g_t g_p1 t_rowSize t_pulses t_fewest t_sent p1_gapCount p1_targetCount p1_lookCount p1_time p1_gone p1_spots) → va_S A s.heap H locs → lv_has ls 5 [(0, .ref (g_t 0)), (1, .ref (g_p1 0)), (2, .int x2), (3, .int x3)] → k_4 x2 x3 = some res → W p l e rmX2_countClear s m args below meth c H locs 0 0 Q (F0 m 4 ls [])) :
    ∀ (n_ : Nat) (x2 : Int32) (x3 : Int32) (x4 : Int32) (H : Heap) (locs : List Loc) (ls : Array Slot), va_P D vwCl (w_X2_countClear K g_t g_p1 t_rowSize t_pulses t_fewest t_sent p1_gapCount p1_targetCount p1_lookCount p1_time p1_gone p1_spots) H → va_D A (w_X2_countClear K g_t g_p1 t_rowSize t_pulses t_fewest t_sent p1_gapCount p1_targetCount p1_lookCount p1_time p1_gone p1_spots) → va_S A s.heap H locs → lv_has ls 5 [(0, .ref (g_t 0)), (1, .ref (g_p1 0)), (2, .int x2), (3, .int x3), (4, .int x4)] → L_X2_countClear_15 t_pulses t_sent p1_targetCount p1_spots k_4 n_ x2 x3 x4 = some res → W p l e rmX2_countClear s m args below meth c H locs 0 0 Q (F0 m 15 ls []) := by
  obtain ⟨⟨hx, hb, hml, hown, hts⟩, hK, -⟩ := id C0
  intro n_
  induction n_ with
  | zero =>
    intro x2 x3 x4 H locs ls hP hD hS hl hF
    exact no_s (show (none : Option (Int32)) = some res from hF)
  | succ n_ ih =>
    intro x2 x3 x4 H locs ls hP hD hS hl hF
    rw [L_X2_countClear_15] at hF
    refine lv_iload hx hb dX2_countClear_15 (lv_at hl 4 rfl) ?_
    refine lv_aload_n hx hb dX2_countClear_17 rfl (lv_at hl 0 rfl) ?_
    refine va_get (D := D) (ci := 2) (v := .int t_pulses) (C := RX2) (T := TX2) (N := 6) hx hb hts iw_X2_countClear_X2 hown hK hP 0 rfl rfl 3 (by decide) (hts _ fl_X2_countClear_39) (fun _ h9 => h9) rfl dX2_countClear_18 ?_
    refine lv_icmp_ge (tgt := 58) hx hb dX2_countClear_21 (by decide) (fun c_1 => ?_) (fun c_1 => ?_)
    · have hF := it_pos c_1 hF
      refine lv_iinc (v := (x3 + (1 : Int32))) (lv' := [(3, .int (x3 + (1 : Int32))), (0, .ref (g_t 0)), (1, .ref (g_p1 0)), (2, .int x2), (4, .int x4)]) hx hb dX2_countClear_58 hl (k := 3) rfl (congrArg (fun z => x3 + z) (by decide)) (by decide) rfl (fun ls hl => ?_)
      refine lv_goto (tgt := 4) hx hb dX2_countClear_61 (by decide) ?_
      exact HK_4 x2 (x3 + (1 : Int32)) H locs ls hP hD hS (lv_sub hl [1, 2, 3, 0] rfl) hF
    · have hF := it_neg c_1 hF
      refine lv_aload_n hx hb dX2_countClear_24 rfl (lv_at hl 0 rfl) ?_
      refine va_get (D := D) (ci := 2) (v := .ref (g_t 3)) (C := RX2) (T := TX2) (N := 6) hx hb hts iw_X2_countClear_X2 hown hK hP 0 rfl rfl 2 (by decide) (hts _ fl_X2_countClear_15) (fun _ h9 => h9) rfl dX2_countClear_25 ?_
      refine lv_iload hx hb dX2_countClear_28 (lv_at hl 4 rfl) ?_
      obtain ⟨hg_2, hF⟩ := gd_some hF
      refine xl_i (f := t_sent) hx hb hK hP 1 0 rfl rfl rfl (in_v hg_2) dX2_countClear_30 ?_
      refine lv_aload_n hx hb dX2_countClear_31 rfl (lv_at hl 1 rfl) ?_
      refine lv_iload_n hx hb dX2_countClear_32 rfl (lv_at hl 3 rfl) ?_
      obtain ⟨r_3, hc_4, hF⟩ := bn_some hF
      refine xc_i (wn := (w_X2_countClear K g_t g_p1 t_rowSize t_pulses t_fewest t_sent p1_gapCount p1_targetCount p1_lookCount p1_time p1_gone p1_spots)) hP hD hS C0.2.2.1 [2, 3] [0, 1] [0, 1, 2, 3] rfl rfl (by decide) (by decide) rfl (by decide) (va_runV (As := [.int x3]) (rest := [.int (t_sent (x4).toNatClampNeg)]) C0.1 (c_X5_rangeOf l D K g_p1 p1_gapCount p1_targetCount p1_lookCount p1_time p1_gone p1_spots x3 r_3 hc_4 H.size) (cwV 1 hts gX2_countClear_X5_rangeOf rfl rfl rfl (by decide +kernel) ⟨Nat.le_of_ble_eq_true rfl, Nat.le_of_ble_eq_true rfl⟩) (xp_V C0.2 hP hD hS [2, 3] rfl (by decide) 5 0 rfl rfl rfl) rfl rfl hl.1 rfl (lv_room (Nat.le_of_ble_eq_true rfl)) dX2_countClear_33 ⟨Nat.le_of_ble_eq_true rfl, Nat.le_of_ble_eq_true rfl⟩) (fun H locs hP hD hS => ?_)
      refine lv_iadd hx hb dX2_countClear_36 ?_
      refine lv_aload_n hx hb dX2_countClear_37 rfl (lv_at hl 0 rfl) ?_
      refine va_get (D := D) (ci := 2) (v := .ref (g_t 3)) (C := RX2) (T := TX2) (N := 6) hx hb hts iw_X2_countClear_X2 hown hK hP 0 rfl rfl 2 (by decide) (hts _ fl_X2_countClear_15) (fun _ h9 => h9) rfl dX2_countClear_38 ?_
      refine lv_iload hx hb dX2_countClear_41 (lv_at hl 4 rfl) ?_
      refine lv_iconst (v := 1) hx hb dX2_countClear_43 (by decide) ?_
      refine lv_iadd hx hb dX2_countClear_44 ?_
      obtain ⟨hg_5, hF⟩ := gd_some hF
      refine xl_i (f := t_sent) hx hb hK hP 1 0 rfl rfl rfl (in_v hg_5) dX2_countClear_45 ?_
      refine lv_icmp_ge (tgt := 52) hx hb dX2_countClear_46 (by decide) (fun c_6 => ?_) (fun c_6 => ?_)
      · have hF := it_pos c_6 hF
        refine lv_iinc (v := (x4 + (1 : Int32))) (lv' := [(4, .int (x4 + (1 : Int32))), (0, .ref (g_t 0)), (1, .ref (g_p1 0)), (2, .int x2), (3, .int x3)]) hx hb dX2_countClear_52 hl (k := 4) rfl (congrArg (fun z => x4 + z) (by decide)) (by decide) rfl (fun ls hl => ?_)
        refine lv_goto (tgt := 15) hx hb dX2_countClear_55 (by decide) ?_
        exact ih x2 x3 (x4 + (1 : Int32)) H locs ls hP hD hS (lv_sub hl [1, 2, 3, 4, 0] rfl) hF
      · have hF := it_neg c_6 hF
        refine lv_iinc (v := (x2 + (1 : Int32))) (lv' := [(2, .int (x2 + (1 : Int32))), (0, .ref (g_t 0)), (1, .ref (g_p1 0)), (3, .int x3), (4, .int x4)]) hx hb dX2_countClear_49 hl (k := 2) rfl (congrArg (fun z => x2 + z) (by decide)) (by decide) rfl (fun ls hl => ?_)
        refine lv_iinc (v := (x4 + (1 : Int32))) (lv' := [(4, .int (x4 + (1 : Int32))), (2, .int (x2 + (1 : Int32))), (0, .ref (g_t 0)), (1, .ref (g_p1 0)), (3, .int x3)]) hx hb dX2_countClear_52 hl (k := 4) rfl (congrArg (fun z => x4 + z) (by decide)) (by decide) rfl (fun ls hl => ?_)
        refine lv_goto (tgt := 15) hx hb dX2_countClear_55 (by decide) ?_
        exact ih (x2 + (1 : Int32)) x3 (x4 + (1 : Int32)) H locs ls hP hD hS (lv_sub hl [2, 3, 1, 4, 0] rfl) hF
def L_X2_countClear_4 (t_pulses : Int32) (t_sent : Nat → Int32) (p1_targetCount : Int32) (p1_spots : Nat → Int32) : Nat → Int32 → Int32 → Option (Int32)
  | 0, _, _ => none
  | n_ + 1, x2, x3 =>
    if p1_targetCount ≤ x3 then (some x2) else (L_X2_countClear_15 t_pulses t_sent p1_targetCount p1_spots (L_X2_countClear_4 t_pulses t_sent p1_targetCount p1_spots n_) fu_ x2 x3 (0 : Int32))
set_option maxHeartbeats 4000000 in
set_option maxRecDepth 100000 in
theorem w_X2_countClear_4 {p : Program} {l : Launch} {e : Env} {s : State} {m : MethodId} {args : Array Value} {below : List Frame} {meth : Method} {c : Code} {D : va_G} {K : Nat → ClassId} {A : Nat → Prop} {Q : State → Prop} (C0 : cx_ p s m args c cX2_countClear 5 RX2 wsX2_countClear D K A) {g_t : Nat → Nat} {g_p1 : Nat → Nat} {t_rowSize : Int32} {t_pulses : Int32} {t_fewest : Int32} {t_sent : Nat → Int32} {p1_gapCount : Int32} {p1_targetCount : Int32} {p1_lookCount : Int32} {p1_time : Int32} {p1_gone : Int32} {p1_spots : Nat → Int32} {res : Int32} (HR : ∀ (pc : Nat) (H : Heap) (locs : List Loc) (ls : Array Slot), decode cX2_countClear pc = .ok (.ireturn, 1) → va_P D vwCl (w_X2_countClear K g_t g_p1 t_rowSize t_pulses t_fewest t_sent p1_gapCount p1_targetCount p1_lookCount p1_time p1_gone p1_spots) H → va_D A (w_X2_countClear K g_t g_p1 t_rowSize t_pulses t_fewest t_sent p1_gapCount p1_targetCount p1_lookCount p1_time p1_gone p1_spots) → va_S A s.heap H locs → W p l e rmX2_countClear s m args below meth c H locs 0 0 Q (F0 m pc ls [.int res]))  :
    ∀ (n_ : Nat) (x2 : Int32) (x3 : Int32) (H : Heap) (locs : List Loc) (ls : Array Slot), va_P D vwCl (w_X2_countClear K g_t g_p1 t_rowSize t_pulses t_fewest t_sent p1_gapCount p1_targetCount p1_lookCount p1_time p1_gone p1_spots) H → va_D A (w_X2_countClear K g_t g_p1 t_rowSize t_pulses t_fewest t_sent p1_gapCount p1_targetCount p1_lookCount p1_time p1_gone p1_spots) → va_S A s.heap H locs → lv_has ls 5 [(0, .ref (g_t 0)), (1, .ref (g_p1 0)), (2, .int x2), (3, .int x3)] → L_X2_countClear_4 t_pulses t_sent p1_targetCount p1_spots n_ x2 x3 = some res → W p l e rmX2_countClear s m args below meth c H locs 0 0 Q (F0 m 4 ls []) := by
  obtain ⟨⟨hx, hb, hml, hown, hts⟩, hK, -⟩ := id C0
  intro n_
  induction n_ with
  | zero =>
    intro x2 x3 H locs ls hP hD hS hl hF
    exact no_s (show (none : Option (Int32)) = some res from hF)
  | succ n_ ih =>
    intro x2 x3 H locs ls hP hD hS hl hF
    rw [L_X2_countClear_4] at hF
    refine lv_iload_n hx hb dX2_countClear_4 rfl (lv_at hl 3 rfl) ?_
    refine lv_aload_n hx hb dX2_countClear_5 rfl (lv_at hl 1 rfl) ?_
    refine va_get (D := D) (ci := 5) (v := .int p1_targetCount) (C := RX5) (T := TX5) (N := 13) hx hb hts iw_X2_countClear_X5 hown hK hP 2 rfl rfl 9 (by decide) (hts _ fl_X2_countClear_52) (fun _ h9 => h9) rfl dX2_countClear_6 ?_
    refine lv_icmp_ge (tgt := 64) hx hb dX2_countClear_9 (by decide) (fun c_1 => ?_) (fun c_1 => ?_)
    · have hF := it_pos c_1 hF
      refine lv_iload_n hx hb dX2_countClear_64 rfl (lv_at hl 2 rfl) ?_
      obtain rfl := Option.some.inj hF
      exact HR 65 H locs ls dX2_countClear_65 hP hD hS
    · have hF := it_neg c_1 hF
      refine lv_iconst (v := 0) hx hb dX2_countClear_12 (by decide) ?_
      refine lv_istore (lv' := [(4, .int (0 : Int32)), (0, .ref (g_t 0)), (1, .ref (g_p1 0)), (2, .int x2), (3, .int x3)]) hx hb dX2_countClear_13 hl (by decide) rfl (fun ls hl => ?_)
      exact w_X2_countClear_15 C0 HR ih fu_ x2 x3 (0 : Int32) H locs ls hP hD hS (lv_sub hl [1, 2, 3, 4, 0] rfl) hF
def F_X2_countClear (t_pulses : Int32) (t_sent : Nat → Int32) (p1_targetCount : Int32) (p1_spots : Nat → Int32) : Option (Int32) :=
  L_X2_countClear_4 t_pulses t_sent p1_targetCount p1_spots fu_ (0 : Int32) (0 : Int32)
set_option maxHeartbeats 4000000 in
set_option maxRecDepth 100000 in
theorem c_X2_countClear (l : Launch) (D : va_G) (K : Nat → ClassId) (g_t : Nat → Nat) (g_p1 : Nat → Nat) (t_rowSize : Int32) (t_pulses : Int32) (t_fewest : Int32) (t_sent : Nat → Int32) (p1_gapCount : Int32) (p1_targetCount : Int32) (p1_lookCount : Int32) (p1_time : Int32) (p1_gone : Int32) (p1_spots : Nat → Int32) (res : Int32) (hF : F_X2_countClear t_pulses t_sent p1_targetCount p1_spots = some res) :
    Mi_ l yX2_countClear wsX2_countClear rmX2_countClear D K [.ref (g_t 0), .ref (g_p1 0)] (w_X2_countClear K g_t g_p1 t_rowSize t_pulses t_fewest t_sent p1_gapCount p1_targetCount p1_lookCount p1_time p1_gone p1_spots) (w_X2_countClear K g_t g_p1 t_rowSize t_pulses t_fewest t_sent p1_gapCount p1_targetCount p1_lookCount p1_time p1_gone p1_spots) (res) := by
  refine en_i (cc := cX2_countClear) (maxL := 5) (own := RX2) (by decide) rfl rfl (Nat.le_of_ble_eq_true rfl) ?_
  intro p e s m args below meth c A Q H locs ls C0 hP hD hS hl HR
  obtain ⟨⟨hx, hb, hml, hown, hts⟩, hK, -⟩ := id C0
  have hl : lv_has ls 5 [(0, .ref (g_t 0)), (1, .ref (g_p1 0))] := hl
  unfold F_X2_countClear at hF
  refine lv_iconst (v := 0) hx hb dX2_countClear_0 (by decide) ?_
  refine lv_istore_n (lv' := [(2, .int (0 : Int32)), (0, .ref (g_t 0)), (1, .ref (g_p1 0))]) hx hb dX2_countClear_1 rfl hl (by decide) rfl (fun ls hl => ?_)
  refine lv_iconst (v := 0) hx hb dX2_countClear_2 (by decide) ?_
  refine lv_istore_n (lv' := [(3, .int (0 : Int32)), (2, .int (0 : Int32)), (0, .ref (g_t 0)), (1, .ref (g_p1 0))]) hx hb dX2_countClear_3 rfl hl (by decide) rfl (fun ls hl => ?_)
  exact w_X2_countClear_4 C0 HR fu_ (0 : Int32) (0 : Int32) H locs ls hP hD hS (lv_sub hl [2, 3, 1, 0] rfl) hF

/-! StaggerRadar.Dwell.lastSent()I -/
abbrev rmX2_lastSent : Room := { frames := 0, cells := 0, slots := 0, locals := 0 }
theorem fl_X2_lastSent_15 : Cond.fieldLink RX2 15 "StaggerRadar$Dwell" "sent" "[I" ∈ wsX2_lastSent := by decide +kernel
theorem fl_X2_lastSent_39 : Cond.fieldLink RX2 39 "StaggerRadar$Dwell" "pulses" "I" ∈ wsX2_lastSent := by decide +kernel
theorem iw_X2_lastSent_X2 : ∀ w ∈ u_ws RX2 TX2 6, w ∈ wsX2_lastSent := by decide +kernel
abbrev w_X2_lastSent (K : Nat → ClassId) (g_t : Nat → Nat) (t_rowSize : Int32) (t_pulses : Int32) (t_fewest : Int32) (t_sent : Nat → Int32) : va_W := [((g_t 0), .inr (2, [.ref (g_t 1), .int t_rowSize, .ref (g_t 3), .int t_pulses, .ref (g_t 5), .int t_fewest])), ((g_t 3), .inl (K 0, 65, .inl t_sent))]
def F_X2_lastSent (t_pulses : Int32) (t_sent : Nat → Int32) : Option (Int32) :=
  if t_pulses ≤ (0 : Int32) then (some (0 : Int32)) else (gd_ (in_b (t_pulses - (1 : Int32)) 65) (some (t_sent (t_pulses - (1 : Int32)).toNatClampNeg)))
set_option maxHeartbeats 4000000 in
set_option maxRecDepth 100000 in
theorem c_X2_lastSent (l : Launch) (D : va_G) (K : Nat → ClassId) (g_t : Nat → Nat) (t_rowSize : Int32) (t_pulses : Int32) (t_fewest : Int32) (t_sent : Nat → Int32) (res : Int32) (hF : F_X2_lastSent t_pulses t_sent = some res) :
    Mi_ l yX2_lastSent wsX2_lastSent rmX2_lastSent D K [.ref (g_t 0)] (w_X2_lastSent K g_t t_rowSize t_pulses t_fewest t_sent) (w_X2_lastSent K g_t t_rowSize t_pulses t_fewest t_sent) (res) := by
  refine en_i (cc := cX2_lastSent) (maxL := 1) (own := RX2) (by decide) rfl rfl (Nat.le_of_ble_eq_true rfl) ?_
  intro p e s m args below meth c A Q H locs ls C0 hP hD hS hl HR
  obtain ⟨⟨hx, hb, hml, hown, hts⟩, hK, -⟩ := id C0
  have hl : lv_has ls 1 [(0, .ref (g_t 0))] := hl
  unfold F_X2_lastSent at hF
  refine lv_aload_n hx hb dX2_lastSent_0 rfl (lv_at hl 0 rfl) ?_
  refine va_get (D := D) (ci := 2) (v := .int t_pulses) (C := RX2) (T := TX2) (N := 6) hx hb hts iw_X2_lastSent_X2 hown hK hP 0 rfl rfl 3 (by decide) (hts _ fl_X2_lastSent_39) (fun _ h9 => h9) rfl dX2_lastSent_1 ?_
  refine lv_if_le (tgt := 21) hx hb dX2_lastSent_4 (by decide) (fun c_1 => ?_) (fun c_1 => ?_)
  · have hF := it_pos c_1 hF
    refine lv_iconst (v := 0) hx hb dX2_lastSent_21 (by decide) ?_
    obtain rfl := Option.some.inj hF
    exact HR 22 H locs ls dX2_lastSent_22 hP hD hS
  · have hF := it_neg c_1 hF
    refine lv_aload_n hx hb dX2_lastSent_7 rfl (lv_at hl 0 rfl) ?_
    refine va_get (D := D) (ci := 2) (v := .ref (g_t 3)) (C := RX2) (T := TX2) (N := 6) hx hb hts iw_X2_lastSent_X2 hown hK hP 0 rfl rfl 2 (by decide) (hts _ fl_X2_lastSent_15) (fun _ h9 => h9) rfl dX2_lastSent_8 ?_
    refine lv_aload_n hx hb dX2_lastSent_11 rfl (lv_at hl 0 rfl) ?_
    refine va_get (D := D) (ci := 2) (v := .int t_pulses) (C := RX2) (T := TX2) (N := 6) hx hb hts iw_X2_lastSent_X2 hown hK hP 0 rfl rfl 3 (by decide) (hts _ fl_X2_lastSent_39) (fun _ h9 => h9) rfl dX2_lastSent_12 ?_
    refine lv_iconst (v := 1) hx hb dX2_lastSent_15 (by decide) ?_
    refine lv_isub hx hb dX2_lastSent_16 ?_
    obtain ⟨hg_2, hF⟩ := gd_some hF
    refine xl_i (f := t_sent) hx hb hK hP 1 0 rfl rfl rfl (in_v hg_2) dX2_lastSent_17 ?_
    refine lv_goto (tgt := 22) hx hb dX2_lastSent_18 (by decide) ?_
    obtain rfl := Option.some.inj hF
    exact HR 22 H locs ls dX2_lastSent_22 hP hD hS

/-! StaggerRadar.dwell(IIII)I -/
abbrev rmX10_dwell : Room := { frames := 3, cells := 0, slots := 0, locals := 81 }
theorem fl_X10_dwell_10 : Cond.fieldLink RX10 10 "StaggerRadar" "radar" "LStaggerRadar$Radar;" ∈ wsX10_dwell := by decide +kernel
theorem fl_X10_dwell_69 : Cond.fieldLink RX10 69 "StaggerRadar" "dwelling" "LStaggerRadar$Dwell;" ∈ wsX10_dwell := by decide +kernel
theorem fl_X10_dwell_122 : Cond.fieldLink RX10 122 "StaggerRadar$Radar" "gapCount" "I" ∈ wsX10_dwell := by decide +kernel
theorem fl_X10_dwell_158 : Cond.fieldLink RX10 158 "StaggerRadar$Radar" "targetCount" "I" ∈ wsX10_dwell := by decide +kernel
theorem ld_X10_dwell_375 : Cond.constant RX10 375 (2147483647) ∈ wsX10_dwell := by decide +kernel
theorem iw_X10_dwell_X10 : ∀ w ∈ u_ws RX10 TX10 14, w ∈ wsX10_dwell := by decide +kernel
theorem iw_X10_dwell_X2 : ∀ w ∈ u_ws RX2 TX2 6, w ∈ wsX10_dwell := by decide +kernel
theorem iw_X10_dwell_X5 : ∀ w ∈ u_ws RX5 TX5 13, w ∈ wsX10_dwell := by decide +kernel
abbrev w_X10_dwell (K : Nat → ClassId) (g_t : Nat → Nat) (g_t_radar : Nat → Nat) (g_t_draft : Nat → Nat) (g_t_text : Nat → Nat) (g_t_reader : Nat → Nat) (g_t_history : Nat → Nat) (g_t_echoes : Nat → Nat) (g_t_tracks : Nat → Nat) (g_t_dwelling : Nat → Nat) (g_t_chooser : Nat → Nat) (g_t_adviser : Nat → Nat) (t_radar_gapCount : Int32) (t_radar_targetCount : Int32) (t_radar_lookCount : Int32) (t_radar_time : Int32) (t_radar_gone : Int32) (t_radar_gaps : Nat → Int32) (t_radar_settings : Nat → Int32) (t_radar_spots : Nat → Int32) (t_dwelling_rowSize : Int32) (t_dwelling_pulses : Int32) (t_dwelling_fewest : Int32) (t_dwelling_row : Nat → Int32) (t_dwelling_sent : Nat → Int32) : va_W := [((g_t 0), .inr (9, [.ref (g_t_radar 0), .ref (g_t_draft 0), .ref (g_t_text 0), .ref (g_t_reader 0), .ref (g_t_history 0), .ref (g_t 6), .ref (g_t 7), .ref (g_t 8), .ref (g_t_echoes 0), .ref (g_t_tracks 0), .ref (g_t_dwelling 0), .ref (g_t_chooser 0), .ref (g_t_adviser 0), .ref (g_t 14)])), ((g_t_radar 0), .inr (5, [.ref (g_t_radar 1), .ref (g_t_radar 2), .ref (g_t_radar 3), .ref (g_t_radar 4), .ref (g_t_radar 5), .ref (g_t_radar 6), .ref (g_t_radar 7), .ref (g_t_radar 8), .int t_radar_gapCount, .int t_radar_targetCount, .int t_radar_lookCount, .int t_radar_time, .int t_radar_gone])), ((g_t_radar 1), .inl (K 0, 5, .inl t_radar_gaps)), ((g_t_radar 2), .inl (K 0, 7, .inl t_radar_settings)), ((g_t_radar 3), .inl (K 0, 8, .inl t_radar_spots)), ((g_t_dwelling 0), .inr (2, [.ref (g_t_dwelling 1), .int t_dwelling_rowSize, .ref (g_t_dwelling 3), .int t_dwelling_pulses, .ref (g_t_dwelling 5), .int t_dwelling_fewest])), ((g_t_dwelling 1), .inl (K 0, 5, .inl t_dwelling_row)), ((g_t_dwelling 3), .inl (K 0, 65, .inl t_dwelling_sent))]
def F_X10_dwell (t_radar_gapCount : Int32) (t_radar_targetCount : Int32) (t_radar_gaps : Nat → Int32) (t_radar_settings : Nat → Int32) (t_radar_spots : Nat → Int32) (t_dwelling_rowSize : Int32) (t_dwelling_pulses : Int32) (t_dwelling_row : Nat → Int32) (t_dwelling_sent : Nat → Int32) (x1 : Int32) (x2 : Int32) (x3 : Int32) (x4 : Int32) : Option (Int32 × Int32 × Int32 × (Nat → Int32) × (Nat → Int32)) :=
  (F_X10_isWithin x2 (1 : Int32) (64 : Int32)).bind fun r_1 => (if r_1 = (0 : Int32) then (some ((-1 : Int32), t_dwelling_rowSize, t_dwelling_pulses, t_dwelling_row, t_dwelling_sent)) else ((F_X10_isWithin x3 (0 : Int32) (3 : Int32)).bind fun r_4 => (if r_4 = (0 : Int32) then (some ((-1 : Int32), t_dwelling_rowSize, t_dwelling_pulses, t_dwelling_row, t_dwelling_sent)) else (if t_radar_gapCount = (0 : Int32) then (some ((-1 : Int32), t_dwelling_rowSize, t_dwelling_pulses, t_dwelling_row, t_dwelling_sent)) else ((F_X2_takeGaps t_dwelling_rowSize t_dwelling_row t_radar_gapCount t_radar_gaps).bind fun r_8 => ((F_X2_send r_8.1 t_dwelling_pulses r_8.2 t_dwelling_sent x2 x1 x3).bind fun r_10 => (if x4 = (0 : Int32) then ((F_X2_lastSent r_10.1 r_10.2).bind fun r_13 => (some (r_13, r_8.1, r_10.1, r_8.2, r_10.2))) else (if x4 = (1 : Int32) then ((F_X2_countClear r_10.1 r_10.2 t_radar_targetCount t_radar_spots).bind fun r_16 => (some (r_16, r_8.1, r_10.1, r_8.2, r_10.2))) else (if x4 = (2 : Int32) then ((F_X2_countClear r_10.1 r_10.2 t_radar_targetCount t_radar_spots).bind fun r_19 => (some (((x2 * t_radar_targetCount) - r_19), r_8.1, r_10.1, r_8.2, r_10.2))) else (if x4 = (3 : Int32) then ((F_X2_countHidden r_10.1 r_10.2 t_radar_targetCount t_radar_settings t_radar_spots (2147483647 : Int32)).bind fun r_22 => (some (r_22, r_8.1, r_10.1, r_8.2, r_10.2))) else (if x4 = (4 : Int32) then ((F_X2_longestGap r_10.1 r_10.2).bind fun r_25 => (some (r_25, r_8.1, r_10.1, r_8.2, r_10.2))) else (some ((-1 : Int32), r_8.1, r_10.1, r_8.2, r_10.2)))))))))))))
set_option maxHeartbeats 4000000 in
set_option maxRecDepth 100000 in
theorem c_X10_dwell (l : Launch) (D : va_G) (K : Nat → ClassId) (g_t : Nat → Nat) (g_t_radar : Nat → Nat) (g_t_draft : Nat → Nat) (g_t_text : Nat → Nat) (g_t_reader : Nat → Nat) (g_t_history : Nat → Nat) (g_t_echoes : Nat → Nat) (g_t_tracks : Nat → Nat) (g_t_dwelling : Nat → Nat) (g_t_chooser : Nat → Nat) (g_t_adviser : Nat → Nat) (t_radar_gapCount : Int32) (t_radar_targetCount : Int32) (t_radar_lookCount : Int32) (t_radar_time : Int32) (t_radar_gone : Int32) (t_radar_gaps : Nat → Int32) (t_radar_settings : Nat → Int32) (t_radar_spots : Nat → Int32) (t_dwelling_rowSize : Int32) (t_dwelling_pulses : Int32) (t_dwelling_fewest : Int32) (t_dwelling_row : Nat → Int32) (t_dwelling_sent : Nat → Int32) (x1 : Int32) (x2 : Int32) (x3 : Int32) (x4 : Int32) (res : Int32 × Int32 × Int32 × (Nat → Int32) × (Nat → Int32)) (hF : F_X10_dwell t_radar_gapCount t_radar_targetCount t_radar_gaps t_radar_settings t_radar_spots t_dwelling_rowSize t_dwelling_pulses t_dwelling_row t_dwelling_sent x1 x2 x3 x4 = some res) :
    Mi_ l yX10_dwell wsX10_dwell rmX10_dwell D K [.ref (g_t 0), .int x1, .int x2, .int x3, .int x4] (w_X10_dwell K g_t g_t_radar g_t_draft g_t_text g_t_reader g_t_history g_t_echoes g_t_tracks g_t_dwelling g_t_chooser g_t_adviser t_radar_gapCount t_radar_targetCount t_radar_lookCount t_radar_time t_radar_gone t_radar_gaps t_radar_settings t_radar_spots t_dwelling_rowSize t_dwelling_pulses t_dwelling_fewest t_dwelling_row t_dwelling_sent) (w_X10_dwell K g_t g_t_radar g_t_draft g_t_text g_t_reader g_t_history g_t_echoes g_t_tracks g_t_dwelling g_t_chooser g_t_adviser t_radar_gapCount t_radar_targetCount t_radar_lookCount t_radar_time t_radar_gone t_radar_gaps t_radar_settings t_radar_spots res.2.1 res.2.2.1 t_dwelling_fewest res.2.2.2.1 res.2.2.2.2) (res.1) := by
  refine en_i (cc := cX10_dwell) (maxL := 5) (own := RX10) (by decide) rfl rfl (Nat.le_of_ble_eq_true rfl) ?_
  intro p e s m args below meth c A Q H locs ls C0 hP hD hS hl HR
  obtain ⟨⟨hx, hb, hml, hown, hts⟩, hK, -⟩ := id C0
  have hl : lv_has ls 5 [(0, .ref (g_t 0)), (1, .int x1), (2, .int x2), (3, .int x3), (4, .int x4)] := hl
  unfold F_X10_dwell at hF
  refine lv_iload_n hx hb dX10_dwell_0 rfl (lv_at hl 2 rfl) ?_
  refine lv_iconst (v := 1) hx hb dX10_dwell_1 (by decide) ?_
  refine lv_bipush (v := 64) hx hb dX10_dwell_2 (by decide) ?_
  obtain ⟨r_1, hc_2, hF⟩ := bn_some hF
  refine xc_i (wn := (w_X10_dwell K g_t g_t_radar g_t_draft g_t_text g_t_reader g_t_history g_t_echoes g_t_tracks g_t_dwelling g_t_chooser g_t_adviser t_radar_gapCount t_radar_targetCount t_radar_lookCount t_radar_time t_radar_gone t_radar_gaps t_radar_settings t_radar_spots t_dwelling_rowSize t_dwelling_pulses t_dwelling_fewest t_dwelling_row t_dwelling_sent)) hP hD hS C0.2.2.1 [] [0, 1, 2, 3, 4, 5, 6, 7] [0, 1, 2, 3, 4, 5, 6, 7] rfl rfl (by decide) (by decide) rfl (by decide) (va_runS (As := [.int x2, .int (1 : Int32), .int (64 : Int32)]) (rest := []) C0.1 (c_X10_isWithin l D K x2 (1 : Int32) (64 : Int32) r_1 hc_2 H.size) (va_cwS 3 hts gX10_dwell_X10_isWithin rfl rfl rfl (by decide +kernel) ⟨Nat.le_of_ble_eq_true rfl, Nat.le_of_ble_eq_true rfl⟩) (xp_S C0.2 hP hD hS [] rfl (by decide)) rfl rfl hl.1 rfl (lv_room (Nat.le_of_ble_eq_true rfl)) dX10_dwell_4 ⟨Nat.le_of_ble_eq_true rfl, Nat.le_of_ble_eq_true rfl⟩) (fun H locs hP hD hS => ?_)
  refine lv_if_eq (tgt := 29) hx hb dX10_dwell_7 (by decide) (fun c_3 => ?_) (fun c_3 => ?_)
  · have hF := it_pos c_3 hF
    refine lv_iconst (v := (-1)) hx hb dX10_dwell_29 (by decide) ?_
    obtain rfl := Option.some.inj hF
    exact HR 30 H locs ls dX10_dwell_30 hP hD hS
  · have hF := it_neg c_3 hF
    refine lv_iload_n hx hb dX10_dwell_10 rfl (lv_at hl 3 rfl) ?_
    refine lv_iconst (v := 0) hx hb dX10_dwell_11 (by decide) ?_
    refine lv_iconst (v := 3) hx hb dX10_dwell_12 (by decide) ?_
    obtain ⟨r_4, hc_5, hF⟩ := bn_some hF
    refine xc_i (wn := (w_X10_dwell K g_t g_t_radar g_t_draft g_t_text g_t_reader g_t_history g_t_echoes g_t_tracks g_t_dwelling g_t_chooser g_t_adviser t_radar_gapCount t_radar_targetCount t_radar_lookCount t_radar_time t_radar_gone t_radar_gaps t_radar_settings t_radar_spots t_dwelling_rowSize t_dwelling_pulses t_dwelling_fewest t_dwelling_row t_dwelling_sent)) hP hD hS C0.2.2.1 [] [0, 1, 2, 3, 4, 5, 6, 7] [0, 1, 2, 3, 4, 5, 6, 7] rfl rfl (by decide) (by decide) rfl (by decide) (va_runS (As := [.int x3, .int (0 : Int32), .int (3 : Int32)]) (rest := []) C0.1 (c_X10_isWithin l D K x3 (0 : Int32) (3 : Int32) r_4 hc_5 H.size) (va_cwS 3 hts gX10_dwell_X10_isWithin rfl rfl rfl (by decide +kernel) ⟨Nat.le_of_ble_eq_true rfl, Nat.le_of_ble_eq_true rfl⟩) (xp_S C0.2 hP hD hS [] rfl (by decide)) rfl rfl hl.1 rfl (lv_room (Nat.le_of_ble_eq_true rfl)) dX10_dwell_13 ⟨Nat.le_of_ble_eq_true rfl, Nat.le_of_ble_eq_true rfl⟩) (fun H locs hP hD hS => ?_)
    refine lv_if_eq (tgt := 29) hx hb dX10_dwell_16 (by decide) (fun c_6 => ?_) (fun c_6 => ?_)
    · have hF := it_pos c_6 hF
      refine lv_iconst (v := (-1)) hx hb dX10_dwell_29 (by decide) ?_
      obtain rfl := Option.some.inj hF
      exact HR 30 H locs ls dX10_dwell_30 hP hD hS
    · have hF := it_neg c_6 hF
      refine lv_aload_n hx hb dX10_dwell_19 rfl (lv_at hl 0 rfl) ?_
      refine va_get (D := D) (ci := 9) (v := .ref (g_t_radar 0)) (C := RX10) (T := TX10) (N := 14) hx hb hts iw_X10_dwell_X10 hown hK hP 0 rfl rfl 0 (by decide) (hts _ fl_X10_dwell_10) (fun _ h9 => h9) rfl dX10_dwell_20 ?_
      refine va_get (D := D) (ci := 5) (v := .int t_radar_gapCount) (C := RX5) (T := TX5) (N := 13) hx hb hts iw_X10_dwell_X5 hown hK hP 1 rfl rfl 8 (by decide) (hts _ fl_X10_dwell_122) (fun _ h9 => h9) rfl dX10_dwell_23 ?_
      refine lv_if_ne (tgt := 31) hx hb dX10_dwell_26 (by decide) (fun c_7 => ?_) (fun c_7 => ?_)
      · have hF := it_neg c_7 hF
        refine lv_aload_n hx hb dX10_dwell_31 rfl (lv_at hl 0 rfl) ?_
        refine va_get (D := D) (ci := 9) (v := .ref (g_t_dwelling 0)) (C := RX10) (T := TX10) (N := 14) hx hb hts iw_X10_dwell_X10 hown hK hP 0 rfl rfl 10 (by decide) (hts _ fl_X10_dwell_69) (fun _ h9 => h9) rfl dX10_dwell_32 ?_
        refine lv_aload_n hx hb dX10_dwell_35 rfl (lv_at hl 0 rfl) ?_
        refine va_get (D := D) (ci := 9) (v := .ref (g_t_radar 0)) (C := RX10) (T := TX10) (N := 14) hx hb hts iw_X10_dwell_X10 hown hK hP 0 rfl rfl 0 (by decide) (hts _ fl_X10_dwell_10) (fun _ h9 => h9) rfl dX10_dwell_36 ?_
        obtain ⟨r_8, hc_9, hF⟩ := bn_some hF
        refine xc_v (wn := (w_X10_dwell K g_t g_t_radar g_t_draft g_t_text g_t_reader g_t_history g_t_echoes g_t_tracks g_t_dwelling g_t_chooser g_t_adviser t_radar_gapCount t_radar_targetCount t_radar_lookCount t_radar_time t_radar_gone t_radar_gaps t_radar_settings t_radar_spots r_8.1 t_dwelling_pulses t_dwelling_fewest r_8.2 t_dwelling_sent)) hP hD hS C0.2.2.1 [5, 6, 1, 2] [0, 3, 4, 7] [0, 6, 7, 1, 2, 4, 5, 3] rfl rfl (by decide) (by decide) rfl (by decide) (va_runV (As := [.ref (g_t_radar 0)]) (rest := []) C0.1 (c_X2_takeGaps l D K g_t_dwelling g_t_radar t_dwelling_rowSize t_dwelling_pulses t_dwelling_fewest t_dwelling_row t_radar_gapCount t_radar_targetCount t_radar_lookCount t_radar_time t_radar_gone t_radar_gaps r_8 hc_9 H.size) (cwV 1 hts gX10_dwell_X2_takeGaps rfl rfl rfl (by decide +kernel) ⟨Nat.le_of_ble_eq_true rfl, Nat.le_of_ble_eq_true rfl⟩) (xp_V C0.2 hP hD hS [5, 6, 1, 2] rfl (by decide) 2 0 rfl rfl rfl) rfl rfl hl.1 rfl (lv_room (Nat.le_of_ble_eq_true rfl)) dX10_dwell_39 ⟨Nat.le_of_ble_eq_true rfl, Nat.le_of_ble_eq_true rfl⟩) (fun H locs hP hD hS => ?_)
        refine lv_aload_n hx hb dX10_dwell_42 rfl (lv_at hl 0 rfl) ?_
        refine va_get (D := D) (ci := 9) (v := .ref (g_t_dwelling 0)) (C := RX10) (T := TX10) (N := 14) hx hb hts iw_X10_dwell_X10 hown hK hP 0 rfl rfl 10 (by decide) (hts _ fl_X10_dwell_69) (fun _ h9 => h9) rfl dX10_dwell_43 ?_
        refine lv_iload_n hx hb dX10_dwell_46 rfl (lv_at hl 2 rfl) ?_
        refine lv_iload_n hx hb dX10_dwell_47 rfl (lv_at hl 1 rfl) ?_
        refine lv_iload_n hx hb dX10_dwell_48 rfl (lv_at hl 3 rfl) ?_
        obtain ⟨r_10, hc_11, hF⟩ := bn_some hF
        refine xc_v (wn := (w_X10_dwell K g_t g_t_radar g_t_draft g_t_text g_t_reader g_t_history g_t_echoes g_t_tracks g_t_dwelling g_t_chooser g_t_adviser t_radar_gapCount t_radar_targetCount t_radar_lookCount t_radar_time t_radar_gone t_radar_gaps t_radar_settings t_radar_spots r_8.1 r_10.1 t_dwelling_fewest r_8.2 r_10.2)) hP hD hS C0.2.2.1 [5, 6, 7] [0, 1, 2, 3, 4] [0, 1, 2, 3, 4, 5, 6, 7] rfl rfl (by decide) (by decide) rfl (by decide) (va_runV (As := [.int x2, .int x1, .int x3]) (rest := []) C0.1 (c_X2_send l D K g_t_dwelling r_8.1 t_dwelling_pulses t_dwelling_fewest r_8.2 t_dwelling_sent x2 x1 x3 r_10 hc_11 H.size) (cwV 3 hts gX10_dwell_X2_send rfl rfl rfl (by decide +kernel) ⟨Nat.le_of_ble_eq_true rfl, Nat.le_of_ble_eq_true rfl⟩) (xp_V C0.2 hP hD hS [5, 6, 7] rfl (by decide) 2 0 rfl rfl rfl) rfl rfl hl.1 rfl (lv_room (Nat.le_of_ble_eq_true rfl)) dX10_dwell_49 ⟨Nat.le_of_ble_eq_true rfl, Nat.le_of_ble_eq_true rfl⟩) (fun H locs hP hD hS => ?_)
        refine lv_iload hx hb dX10_dwell_52 (lv_at hl 4 rfl) ?_
        by_cases c_12 : x4 = (0 : Int32)
        · have hF := it_pos c_12 hF
          refine lv_tableIn (off := 34) (tgt := 88) hx hb dX10_dwell_54 (by rw [c_12]; decide) (by rw [c_12]; decide) (by rw [c_12]; rfl) (by decide) ?_
          refine lv_aload_n hx hb dX10_dwell_88 rfl (lv_at hl 0 rfl) ?_
          refine va_get (D := D) (ci := 9) (v := .ref (g_t_dwelling 0)) (C := RX10) (T := TX10) (N := 14) hx hb hts iw_X10_dwell_X10 hown hK hP 0 rfl rfl 10 (by decide) (hts _ fl_X10_dwell_69) (fun _ h9 => h9) rfl dX10_dwell_89 ?_
          obtain ⟨r_13, hc_14, hF⟩ := bn_some hF
          refine xc_i (wn := (w_X10_dwell K g_t g_t_radar g_t_draft g_t_text g_t_reader g_t_history g_t_echoes g_t_tracks g_t_dwelling g_t_chooser g_t_adviser t_radar_gapCount t_radar_targetCount t_radar_lookCount t_radar_time t_radar_gone t_radar_gaps t_radar_settings t_radar_spots r_8.1 r_10.1 t_dwelling_fewest r_8.2 r_10.2)) hP hD hS C0.2.2.1 [5, 7] [0, 1, 2, 3, 4, 6] [0, 1, 2, 3, 4, 6, 5, 7] rfl rfl (by decide) (by decide) rfl (by decide) (va_runV (As := []) (rest := []) C0.1 (c_X2_lastSent l D K g_t_dwelling r_8.1 r_10.1 t_dwelling_fewest r_10.2 r_13 hc_14 H.size) (cwV 0 hts gX10_dwell_X2_lastSent rfl rfl rfl (by decide +kernel) ⟨Nat.le_of_ble_eq_true rfl, Nat.le_of_ble_eq_true rfl⟩) (xp_V C0.2 hP hD hS [5, 7] rfl (by decide) 2 0 rfl rfl rfl) rfl rfl hl.1 rfl (lv_room (Nat.le_of_ble_eq_true rfl)) dX10_dwell_92 ⟨Nat.le_of_ble_eq_true rfl, Nat.le_of_ble_eq_true rfl⟩) (fun H locs hP hD hS => ?_)
          obtain rfl := Option.some.inj hF
          exact HR 95 H locs ls dX10_dwell_95 hP hD hS
        have hF := it_neg c_12 hF
        by_cases c_15 : x4 = (1 : Int32)
        · have hF := it_pos c_15 hF
          refine lv_tableIn (off := 42) (tgt := 96) hx hb dX10_dwell_54 (by rw [c_15]; decide) (by rw [c_15]; decide) (by rw [c_15]; rfl) (by decide) ?_
          refine lv_aload_n hx hb dX10_dwell_96 rfl (lv_at hl 0 rfl) ?_
          refine va_get (D := D) (ci := 9) (v := .ref (g_t_dwelling 0)) (C := RX10) (T := TX10) (N := 14) hx hb hts iw_X10_dwell_X10 hown hK hP 0 rfl rfl 10 (by decide) (hts _ fl_X10_dwell_69) (fun _ h9 => h9) rfl dX10_dwell_97 ?_
          refine lv_aload_n hx hb dX10_dwell_100 rfl (lv_at hl 0 rfl) ?_
          refine va_get (D := D) (ci := 9) (v := .ref (g_t_radar 0)) (C := RX10) (T := TX10) (N := 14) hx hb hts iw_X10_dwell_X10 hown hK hP 0 rfl rfl 0 (by decide) (hts _ fl_X10_dwell_10) (fun _ h9 => h9) rfl dX10_dwell_101 ?_
          obtain ⟨r_16, hc_17, hF⟩ := bn_some hF
          refine xc_i (wn := (w_X10_dwell K g_t g_t_radar g_t_draft g_t_text g_t_reader g_t_history g_t_echoes g_t_tracks g_t_dwelling g_t_chooser g_t_adviser t_radar_gapCount t_radar_targetCount t_radar_lookCount t_radar_time t_radar_gone t_radar_gaps t_radar_settings t_radar_spots r_8.1 r_10.1 t_dwelling_fewest r_8.2 r_10.2)) hP hD hS C0.2.2.1 [5, 7, 1, 4] [0, 2, 3, 6] [0, 6, 1, 2, 7, 4, 3, 5] rfl rfl (by decide) (by decide) rfl (by decide) (va_runV (As := [.ref (g_t_radar 0)]) (rest := []) C0.1 (c_X2_countClear l D K g_t_dwelling g_t_radar r_8.1 r_10.1 t_dwelling_fewest r_10.2 t_radar_gapCount t_radar_targetCount t_radar_lookCount t_radar_time t_radar_gone t_radar_spots r_16 hc_17 H.size) (cwV 1 hts gX10_dwell_X2_countClear rfl rfl rfl (by decide +kernel) ⟨Nat.le_of_ble_eq_true rfl, Nat.le_of_ble_eq_true rfl⟩) (xp_V C0.2 hP hD hS [5, 7, 1, 4] rfl (by decide) 2 0 rfl rfl rfl) rfl rfl hl.1 rfl (lv_room (Nat.le_of_ble_eq_true rfl)) dX10_dwell_104 ⟨Nat.le_of_ble_eq_true rfl, Nat.le_of_ble_eq_true rfl⟩) (fun H locs hP hD hS => ?_)
          obtain rfl := Option.some.inj hF
          exact HR 107 H locs ls dX10_dwell_107 hP hD hS
        have hF := it_neg c_15 hF
        by_cases c_18 : x4 = (2 : Int32)
        · have hF := it_pos c_18 hF
          refine lv_tableIn (off := 54) (tgt := 108) hx hb dX10_dwell_54 (by rw [c_18]; decide) (by rw [c_18]; decide) (by rw [c_18]; rfl) (by decide) ?_
          refine lv_iload_n hx hb dX10_dwell_108 rfl (lv_at hl 2 rfl) ?_
          refine lv_aload_n hx hb dX10_dwell_109 rfl (lv_at hl 0 rfl) ?_
          refine va_get (D := D) (ci := 9) (v := .ref (g_t_radar 0)) (C := RX10) (T := TX10) (N := 14) hx hb hts iw_X10_dwell_X10 hown hK hP 0 rfl rfl 0 (by decide) (hts _ fl_X10_dwell_10) (fun _ h9 => h9) rfl dX10_dwell_110 ?_
          refine va_get (D := D) (ci := 5) (v := .int t_radar_targetCount) (C := RX5) (T := TX5) (N := 13) hx hb hts iw_X10_dwell_X5 hown hK hP 1 rfl rfl 9 (by decide) (hts _ fl_X10_dwell_158) (fun _ h9 => h9) rfl dX10_dwell_113 ?_
          refine lv_imul hx hb dX10_dwell_116 ?_
          refine lv_aload_n hx hb dX10_dwell_117 rfl (lv_at hl 0 rfl) ?_
          refine va_get (D := D) (ci := 9) (v := .ref (g_t_dwelling 0)) (C := RX10) (T := TX10) (N := 14) hx hb hts iw_X10_dwell_X10 hown hK hP 0 rfl rfl 10 (by decide) (hts _ fl_X10_dwell_69) (fun _ h9 => h9) rfl dX10_dwell_118 ?_
          refine lv_aload_n hx hb dX10_dwell_121 rfl (lv_at hl 0 rfl) ?_
          refine va_get (D := D) (ci := 9) (v := .ref (g_t_radar 0)) (C := RX10) (T := TX10) (N := 14) hx hb hts iw_X10_dwell_X10 hown hK hP 0 rfl rfl 0 (by decide) (hts _ fl_X10_dwell_10) (fun _ h9 => h9) rfl dX10_dwell_122 ?_
          obtain ⟨r_19, hc_20, hF⟩ := bn_some hF
          refine xc_i (wn := (w_X10_dwell K g_t g_t_radar g_t_draft g_t_text g_t_reader g_t_history g_t_echoes g_t_tracks g_t_dwelling g_t_chooser g_t_adviser t_radar_gapCount t_radar_targetCount t_radar_lookCount t_radar_time t_radar_gone t_radar_gaps t_radar_settings t_radar_spots r_8.1 r_10.1 t_dwelling_fewest r_8.2 r_10.2)) hP hD hS C0.2.2.1 [5, 7, 1, 4] [0, 2, 3, 6] [0, 6, 1, 2, 7, 4, 3, 5] rfl rfl (by decide) (by decide) rfl (by decide) (va_runV (As := [.ref (g_t_radar 0)]) (rest := [.int (x2 * t_radar_targetCount)]) C0.1 (c_X2_countClear l D K g_t_dwelling g_t_radar r_8.1 r_10.1 t_dwelling_fewest r_10.2 t_radar_gapCount t_radar_targetCount t_radar_lookCount t_radar_time t_radar_gone t_radar_spots r_19 hc_20 H.size) (cwV 1 hts gX10_dwell_X2_countClear rfl rfl rfl (by decide +kernel) ⟨Nat.le_of_ble_eq_true rfl, Nat.le_of_ble_eq_true rfl⟩) (xp_V C0.2 hP hD hS [5, 7, 1, 4] rfl (by decide) 2 0 rfl rfl rfl) rfl rfl hl.1 rfl (lv_room (Nat.le_of_ble_eq_true rfl)) dX10_dwell_125 ⟨Nat.le_of_ble_eq_true rfl, Nat.le_of_ble_eq_true rfl⟩) (fun H locs hP hD hS => ?_)
          refine lv_isub hx hb dX10_dwell_128 ?_
          obtain rfl := Option.some.inj hF
          exact HR 129 H locs ls dX10_dwell_129 hP hD hS
        have hF := it_neg c_18 hF
        by_cases c_21 : x4 = (3 : Int32)
        · have hF := it_pos c_21 hF
          refine lv_tableIn (off := 76) (tgt := 130) hx hb dX10_dwell_54 (by rw [c_21]; decide) (by rw [c_21]; decide) (by rw [c_21]; rfl) (by decide) ?_
          refine lv_aload_n hx hb dX10_dwell_130 rfl (lv_at hl 0 rfl) ?_
          refine va_get (D := D) (ci := 9) (v := .ref (g_t_dwelling 0)) (C := RX10) (T := TX10) (N := 14) hx hb hts iw_X10_dwell_X10 hown hK hP 0 rfl rfl 10 (by decide) (hts _ fl_X10_dwell_69) (fun _ h9 => h9) rfl dX10_dwell_131 ?_
          refine lv_aload_n hx hb dX10_dwell_134 rfl (lv_at hl 0 rfl) ?_
          refine va_get (D := D) (ci := 9) (v := .ref (g_t_radar 0)) (C := RX10) (T := TX10) (N := 14) hx hb hts iw_X10_dwell_X10 hown hK hP 0 rfl rfl 0 (by decide) (hts _ fl_X10_dwell_10) (fun _ h9 => h9) rfl dX10_dwell_135 ?_
          refine lv_ldcw (v := 2147483647) hx hb hown (hts _ ld_X10_dwell_375) dX10_dwell_138 ?_
          obtain ⟨r_22, hc_23, hF⟩ := bn_some hF
          refine xc_i (wn := (w_X10_dwell K g_t g_t_radar g_t_draft g_t_text g_t_reader g_t_history g_t_echoes g_t_tracks g_t_dwelling g_t_chooser g_t_adviser t_radar_gapCount t_radar_targetCount t_radar_lookCount t_radar_time t_radar_gone t_radar_gaps t_radar_settings t_radar_spots r_8.1 r_10.1 t_dwelling_fewest r_8.2 r_10.2)) hP hD hS C0.2.2.1 [5, 7, 1, 3, 4] [0, 2, 6] [0, 5, 1, 6, 7, 3, 2, 4] rfl rfl (by decide) (by decide) rfl (by decide) (va_runV (As := [.ref (g_t_radar 0), .int (2147483647 : Int32)]) (rest := []) C0.1 (c_X2_countHidden l D K g_t_dwelling g_t_radar r_8.1 r_10.1 t_dwelling_fewest r_10.2 t_radar_gapCount t_radar_targetCount t_radar_lookCount t_radar_time t_radar_gone t_radar_settings t_radar_spots (2147483647 : Int32) r_22 hc_23 H.size) (cwV 2 hts gX10_dwell_X2_countHidden rfl rfl rfl (by decide +kernel) ⟨Nat.le_of_ble_eq_true rfl, Nat.le_of_ble_eq_true rfl⟩) (xp_V C0.2 hP hD hS [5, 7, 1, 3, 4] rfl (by decide) 2 0 rfl rfl rfl) rfl rfl hl.1 rfl (lv_room (Nat.le_of_ble_eq_true rfl)) dX10_dwell_141 ⟨Nat.le_of_ble_eq_true rfl, Nat.le_of_ble_eq_true rfl⟩) (fun H locs hP hD hS => ?_)
          obtain rfl := Option.some.inj hF
          exact HR 144 H locs ls dX10_dwell_144 hP hD hS
        have hF := it_neg c_21 hF
        by_cases c_24 : x4 = (4 : Int32)
        · have hF := it_pos c_24 hF
          refine lv_tableIn (off := 91) (tgt := 145) hx hb dX10_dwell_54 (by rw [c_24]; decide) (by rw [c_24]; decide) (by rw [c_24]; rfl) (by decide) ?_
          refine lv_aload_n hx hb dX10_dwell_145 rfl (lv_at hl 0 rfl) ?_
          refine va_get (D := D) (ci := 9) (v := .ref (g_t_dwelling 0)) (C := RX10) (T := TX10) (N := 14) hx hb hts iw_X10_dwell_X10 hown hK hP 0 rfl rfl 10 (by decide) (hts _ fl_X10_dwell_69) (fun _ h9 => h9) rfl dX10_dwell_146 ?_
          obtain ⟨r_25, hc_26, hF⟩ := bn_some hF
          refine xc_i (wn := (w_X10_dwell K g_t g_t_radar g_t_draft g_t_text g_t_reader g_t_history g_t_echoes g_t_tracks g_t_dwelling g_t_chooser g_t_adviser t_radar_gapCount t_radar_targetCount t_radar_lookCount t_radar_time t_radar_gone t_radar_gaps t_radar_settings t_radar_spots r_8.1 r_10.1 t_dwelling_fewest r_8.2 r_10.2)) hP hD hS C0.2.2.1 [5, 7] [0, 1, 2, 3, 4, 6] [0, 1, 2, 3, 4, 6, 5, 7] rfl rfl (by decide) (by decide) rfl (by decide) (va_runV (As := []) (rest := []) C0.1 (c_X2_longestGap l D K g_t_dwelling r_8.1 r_10.1 t_dwelling_fewest r_10.2 r_25 hc_26 H.size) (cwV 0 hts gX10_dwell_X2_longestGap rfl rfl rfl (by decide +kernel) ⟨Nat.le_of_ble_eq_true rfl, Nat.le_of_ble_eq_true rfl⟩) (xp_V C0.2 hP hD hS [5, 7] rfl (by decide) 2 0 rfl rfl rfl) rfl rfl hl.1 rfl (lv_room (Nat.le_of_ble_eq_true rfl)) dX10_dwell_149 ⟨Nat.le_of_ble_eq_true rfl, Nat.le_of_ble_eq_true rfl⟩) (fun H locs hP hD hS => ?_)
          obtain rfl := Option.some.inj hF
          exact HR 152 H locs ls dX10_dwell_152 hP hD hS
        have hF := it_neg c_24 hF
        have qc_12 := lv_neT (a := 0) c_12 (by decide)
        have qc_15 := lv_neT (a := 1) c_15 (by decide)
        have qc_18 := lv_neT (a := 2) c_18 (by decide)
        have qc_21 := lv_neT (a := 3) c_21 (by decide)
        have qc_24 := lv_neT (a := 4) c_24 (by decide)
        refine lv_tableOut (tgt := 153) hx hb dX10_dwell_54 (by omega) (by decide) ?_
        refine lv_iconst (v := (-1)) hx hb dX10_dwell_153 (by decide) ?_
        obtain rfl := Option.some.inj hF
        exact HR 154 H locs ls dX10_dwell_154 hP hD hS
      · have hF := it_pos c_7 hF
        refine lv_iconst (v := (-1)) hx hb dX10_dwell_29 (by decide) ?_
        obtain rfl := Option.some.inj hF
        exact HR 30 H locs ls dX10_dwell_30 hP hD hS

/-! StaggerRadar.fault(Z)I -/
abbrev rmX10_fault : Room := { frames := 0, cells := 0, slots := 0, locals := 0 }
theorem fl_X10_fault_22 : Cond.fieldLink RX10 22 "StaggerRadar" "text" "LStaggerRadar$Text;" ∈ wsX10_fault := by decide +kernel
theorem fl_X10_fault_110 : Cond.fieldLink RX10 110 "StaggerRadar$Text" "faultKind" "I" ∈ wsX10_fault := by decide +kernel
theorem fl_X10_fault_114 : Cond.fieldLink RX10 114 "StaggerRadar$Text" "faultPlace" "I" ∈ wsX10_fault := by decide +kernel
theorem iw_X10_fault_X10 : ∀ w ∈ u_ws RX10 TX10 14, w ∈ wsX10_fault := by decide +kernel
theorem iw_X10_fault_X8 : ∀ w ∈ u_ws RX8 TX8 4, w ∈ wsX10_fault := by decide +kernel
abbrev w_X10_fault (K : Nat → ClassId) (g_t : Nat → Nat) (g_t_radar : Nat → Nat) (g_t_draft : Nat → Nat) (g_t_text : Nat → Nat) (g_t_reader : Nat → Nat) (g_t_history : Nat → Nat) (g_t_echoes : Nat → Nat) (g_t_tracks : Nat → Nat) (g_t_dwelling : Nat → Nat) (g_t_chooser : Nat → Nat) (g_t_adviser : Nat → Nat) (t_text_size : Int32) (t_text_faultKind : Int32) (t_text_faultPlace : Int32) : va_W := [((g_t 0), .inr (9, [.ref (g_t_radar 0), .ref (g_t_draft 0), .ref (g_t_text 0), .ref (g_t_reader 0), .ref (g_t_history 0), .ref (g_t 6), .ref (g_t 7), .ref (g_t 8), .ref (g_t_echoes 0), .ref (g_t_tracks 0), .ref (g_t_dwelling 0), .ref (g_t_chooser 0), .ref (g_t_adviser 0), .ref (g_t 14)])), ((g_t_text 0), .inr (7, [.ref (g_t_text 1), .int t_text_size, .int t_text_faultKind, .int t_text_faultPlace]))]
def F_X10_fault (t_text_faultKind : Int32) (t_text_faultPlace : Int32) (x1 : Int32) : Option (Int32) :=
  if x1 = (0 : Int32) then (some t_text_faultKind) else (some t_text_faultPlace)
set_option maxHeartbeats 4000000 in
set_option maxRecDepth 100000 in
theorem c_X10_fault (l : Launch) (D : va_G) (K : Nat → ClassId) (g_t : Nat → Nat) (g_t_radar : Nat → Nat) (g_t_draft : Nat → Nat) (g_t_text : Nat → Nat) (g_t_reader : Nat → Nat) (g_t_history : Nat → Nat) (g_t_echoes : Nat → Nat) (g_t_tracks : Nat → Nat) (g_t_dwelling : Nat → Nat) (g_t_chooser : Nat → Nat) (g_t_adviser : Nat → Nat) (t_text_size : Int32) (t_text_faultKind : Int32) (t_text_faultPlace : Int32) (x1 : Int32) (res : Int32) (hF : F_X10_fault t_text_faultKind t_text_faultPlace x1 = some res) :
    Mi_ l yX10_fault wsX10_fault rmX10_fault D K [.ref (g_t 0), .int x1] (w_X10_fault K g_t g_t_radar g_t_draft g_t_text g_t_reader g_t_history g_t_echoes g_t_tracks g_t_dwelling g_t_chooser g_t_adviser t_text_size t_text_faultKind t_text_faultPlace) (w_X10_fault K g_t g_t_radar g_t_draft g_t_text g_t_reader g_t_history g_t_echoes g_t_tracks g_t_dwelling g_t_chooser g_t_adviser t_text_size t_text_faultKind t_text_faultPlace) (res) := by
  refine en_i (cc := cX10_fault) (maxL := 2) (own := RX10) (by decide) rfl rfl (Nat.le_of_ble_eq_true rfl) ?_
  intro p e s m args below meth c A Q H locs ls C0 hP hD hS hl HR
  obtain ⟨⟨hx, hb, hml, hown, hts⟩, hK, -⟩ := id C0
  have hl : lv_has ls 2 [(0, .ref (g_t 0)), (1, .int x1)] := hl
  unfold F_X10_fault at hF
  refine lv_iload_n hx hb dX10_fault_0 rfl (lv_at hl 1 rfl) ?_
  refine lv_if_eq (tgt := 14) hx hb dX10_fault_1 (by decide) (fun c_1 => ?_) (fun c_1 => ?_)
  · have hF := it_pos c_1 hF
    refine lv_aload_n hx hb dX10_fault_14 rfl (lv_at hl 0 rfl) ?_
    refine va_get (D := D) (ci := 9) (v := .ref (g_t_text 0)) (C := RX10) (T := TX10) (N := 14) hx hb hts iw_X10_fault_X10 hown hK hP 0 rfl rfl 2 (by decide) (hts _ fl_X10_fault_22) (fun _ h9 => h9) rfl dX10_fault_15 ?_
    refine va_get (D := D) (ci := 7) (v := .int t_text_faultKind) (C := RX8) (T := TX8) (N := 4) hx hb hts iw_X10_fault_X8 hown hK hP 1 rfl rfl 2 (by decide) (hts _ fl_X10_fault_110) (fun _ h9 => h9) rfl dX10_fault_18 ?_
    obtain rfl := Option.some.inj hF
    exact HR 21 H locs ls dX10_fault_21 hP hD hS
  · have hF := it_neg c_1 hF
    refine lv_aload_n hx hb dX10_fault_4 rfl (lv_at hl 0 rfl) ?_
    refine va_get (D := D) (ci := 9) (v := .ref (g_t_text 0)) (C := RX10) (T := TX10) (N := 14) hx hb hts iw_X10_fault_X10 hown hK hP 0 rfl rfl 2 (by decide) (hts _ fl_X10_fault_22) (fun _ h9 => h9) rfl dX10_fault_5 ?_
    refine va_get (D := D) (ci := 7) (v := .int t_text_faultPlace) (C := RX8) (T := TX8) (N := 4) hx hb hts iw_X10_fault_X8 hown hK hP 1 rfl rfl 3 (by decide) (hts _ fl_X10_fault_114) (fun _ h9 => h9) rfl dX10_fault_8 ?_
    refine lv_goto (tgt := 21) hx hb dX10_fault_11 (by decide) ?_
    obtain rfl := Option.some.inj hF
    exact HR 21 H locs ls dX10_fault_21 hP hD hS

/-! StaggerRadar.Echoes.foundAt(LStaggerRadar$Radar;IZ)I -/
abbrev rmX3_foundAt : Room := { frames := 3, cells := 0, slots := 0, locals := 69 }
theorem fl_X3_foundAt_66 : Cond.fieldLink RX3 66 "StaggerRadar$Radar" "settings" "[I" ∈ wsX3_foundAt := by decide +kernel
theorem iw_X3_foundAt_X3 : ∀ w ∈ u_ws RX3 TX3 6, w ∈ wsX3_foundAt := by decide +kernel
theorem iw_X3_foundAt_X5 : ∀ w ∈ u_ws RX5 TX5 13, w ∈ wsX3_foundAt := by decide +kernel
abbrev w_X3_foundAt (K : Nat → ClassId) (g_t : Nat → Nat) (g_p1 : Nat → Nat) (t_shownCount : Int32) (t_loud : Nat → Int32) (t_hitBits : Nat → Int32) (p1_gapCount : Int32) (p1_targetCount : Int32) (p1_lookCount : Int32) (p1_time : Int32) (p1_gone : Int32) (p1_gaps : Nat → Int32) (p1_settings : Nat → Int32) (p1_spots : Nat → Int32) : va_W := [((g_t 0), .inr (3, [.ref (g_t 1), .ref (g_t 2), .ref (g_t 3), .ref (g_t 4), .ref (g_t 5), .int t_shownCount])), ((g_t 2), .inl (K 0, 300, .inl t_loud)), ((g_t 3), .inl (K 0, 1000, .inl t_hitBits)), ((g_p1 0), .inr (5, [.ref (g_p1 1), .ref (g_p1 2), .ref (g_p1 3), .ref (g_p1 4), .ref (g_p1 5), .ref (g_p1 6), .ref (g_p1 7), .ref (g_p1 8), .int p1_gapCount, .int p1_targetCount, .int p1_lookCount, .int p1_time, .int p1_gone])), ((g_p1 1), .inl (K 0, 5, .inl p1_gaps)), ((g_p1 2), .inl (K 0, 7, .inl p1_settings)), ((g_p1 3), .inl (K 0, 8, .inl p1_spots))]
def L_X3_foundAt_11 (t_loud : Nat → Int32) (p1_gapCount : Int32) (p1_targetCount : Int32) (p1_gaps : Nat → Int32) (p1_settings : Nat → Int32) (p1_spots : Nat → Int32) : Nat → (Nat → Int32) → Int32 → Int32 → Int32 → Option (Int32 × (Nat → Int32))
  | 0, _, _, _, _ => none
  | n_ + 1, t_hitBits, x3, x4, x5 =>
    if (p1_settings 3) ≤ x5 then (some ((-1 : Int32), t_hitBits)) else ((F_X3_isListed t_hitBits p1_targetCount p1_settings p1_spots x5 x3).bind fun r_2 => (if r_2 = (0 : Int32) then (L_X3_foundAt_11 t_loud p1_gapCount p1_targetCount p1_gaps p1_settings p1_spots n_ t_hitBits x3 x4 (x5 + (1 : Int32))) else (if x4 = (0 : Int32) then (some (x5, t_hitBits)) else (L_X3_foundAt_11 t_loud p1_gapCount p1_targetCount p1_gaps p1_settings p1_spots n_ t_hitBits x3 (x4 + (-1 : Int32)) (x5 + (1 : Int32))))))
set_option maxHeartbeats 4000000 in
set_option maxRecDepth 100000 in
theorem w_X3_foundAt_11 {p : Program} {l : Launch} {e : Env} {s : State} {m : MethodId} {args : Array Value} {below : List Frame} {meth : Method} {c : Code} {D : va_G} {K : Nat → ClassId} {A : Nat → Prop} {Q : State → Prop} (C0 : cx_ p s m args c cX3_foundAt 6 RX3 wsX3_foundAt D K A) {g_t : Nat → Nat} {g_p1 : Nat → Nat} {t_shownCount : Int32} {t_loud : Nat → Int32} {p1_gapCount : Int32} {p1_targetCount : Int32} {p1_lookCount : Int32} {p1_time : Int32} {p1_gone : Int32} {p1_gaps : Nat → Int32} {p1_settings : Nat → Int32} {p1_spots : Nat → Int32} {res : Int32 × (Nat → Int32)} (HR : ∀ (pc : Nat) (H : Heap) (locs : List Loc) (ls : Array Slot), decode cX3_foundAt pc = .ok (.ireturn, 1) → va_P D vwCl (w_X3_foundAt K g_t g_p1 t_shownCount t_loud res.2 p1_gapCount p1_targetCount p1_lookCount p1_time p1_gone p1_gaps p1_settings p1_spots) H → va_D A (w_X3_foundAt K g_t g_p1 t_shownCount t_loud res.2 p1_gapCount p1_targetCount p1_lookCount p1_time p1_gone p1_gaps p1_settings p1_spots) → va_S A s.heap H locs → W p l e rmX3_foundAt s m args below meth c H locs 0 0 Q (F0 m pc ls [.int res.1]))  :
    ∀ (n_ : Nat) (t_hitBits : Nat → Int32) (x3 : Int32) (x4 : Int32) (x5 : Int32) (H : Heap) (locs : List Loc) (ls : Array Slot), va_P D vwCl (w_X3_foundAt K g_t g_p1 t_shownCount t_loud t_hitBits p1_gapCount p1_targetCount p1_lookCount p1_time p1_gone p1_gaps p1_settings p1_spots) H → va_D A (w_X3_foundAt K g_t g_p1 t_shownCount t_loud t_hitBits p1_gapCount p1_targetCount p1_lookCount p1_time p1_gone p1_gaps p1_settings p1_spots) → va_S A s.heap H locs → lv_has ls 6 [(0, .ref (g_t 0)), (1, .ref (g_p1 0)), (3, .int x3), (4, .int x4), (5, .int x5)] → L_X3_foundAt_11 t_loud p1_gapCount p1_targetCount p1_gaps p1_settings p1_spots n_ t_hitBits x3 x4 x5 = some res → W p l e rmX3_foundAt s m args below meth c H locs 0 0 Q (F0 m 11 ls []) := by
  obtain ⟨⟨hx, hb, hml, hown, hts⟩, hK, -⟩ := id C0
  intro n_
  induction n_ with
  | zero =>
    intro t_hitBits x3 x4 x5 H locs ls hP hD hS hl hF
    exact no_s (show (none : Option (Int32 × (Nat → Int32))) = some res from hF)
  | succ n_ ih =>
    intro t_hitBits x3 x4 x5 H locs ls hP hD hS hl hF
    rw [L_X3_foundAt_11] at hF
    refine lv_iload hx hb dX3_foundAt_11 (lv_at hl 4 rfl) ?_
    refine lv_aload_n hx hb dX3_foundAt_13 rfl (lv_at hl 1 rfl) ?_
    refine va_get (D := D) (ci := 5) (v := .ref (g_p1 2)) (C := RX5) (T := TX5) (N := 13) hx hb hts iw_X3_foundAt_X5 hown hK hP 3 rfl rfl 1 (by decide) (hts _ fl_X3_foundAt_66) (fun _ h9 => h9) rfl dX3_foundAt_14 ?_
    refine lv_iconst (v := 3) hx hb dX3_foundAt_17 (by decide) ?_
    refine xl_i (f := p1_settings) hx hb hK hP 5 0 rfl rfl (k := 3) (by decide) (in_v (by decide)) dX3_foundAt_18 ?_
    refine lv_icmp_ge (tgt := 50) hx hb dX3_foundAt_19 (by decide) (fun c_1 => ?_) (fun c_1 => ?_)
    · have hF := it_pos c_1 hF
      refine lv_iconst (v := (-1)) hx hb dX3_foundAt_50 (by decide) ?_
      obtain rfl := Option.some.inj hF
      exact HR 51 H locs ls dX3_foundAt_51 hP hD hS
    · have hF := it_neg c_1 hF
      refine lv_aload_n hx hb dX3_foundAt_22 rfl (lv_at hl 0 rfl) ?_
      refine lv_aload_n hx hb dX3_foundAt_23 rfl (lv_at hl 1 rfl) ?_
      refine lv_iload hx hb dX3_foundAt_24 (lv_at hl 4 rfl) ?_
      refine lv_iload_n hx hb dX3_foundAt_26 rfl (lv_at hl 2 rfl) ?_
      obtain ⟨r_2, hc_3, hF⟩ := bn_some hF
      refine xc_i (wn := (w_X3_foundAt K g_t g_p1 t_shownCount t_loud t_hitBits p1_gapCount p1_targetCount p1_lookCount p1_time p1_gone p1_gaps p1_settings p1_spots)) hP hD hS C0.2.2.1 [0, 2, 3, 5, 6] [1, 4] [2, 0, 3, 4, 1, 5, 6] rfl rfl (by decide) (by decide) rfl (by decide) (va_runV (As := [.ref (g_p1 0), .int x5, .int x3]) (rest := []) C0.1 (c_X3_isListed l D K g_t g_p1 t_shownCount t_hitBits p1_gapCount p1_targetCount p1_lookCount p1_time p1_gone p1_settings p1_spots x5 x3 r_2 hc_3 H.size) (cwV 3 hts gX3_foundAt_X3_isListed rfl rfl rfl (by decide +kernel) ⟨Nat.le_of_ble_eq_true rfl, Nat.le_of_ble_eq_true rfl⟩) (xp_V C0.2 hP hD hS [0, 2, 3, 5, 6] rfl (by decide) 3 0 rfl rfl rfl) rfl rfl hl.1 rfl (lv_room (Nat.le_of_ble_eq_true rfl)) dX3_foundAt_27 ⟨Nat.le_of_ble_eq_true rfl, Nat.le_of_ble_eq_true rfl⟩) (fun H locs hP hD hS => ?_)
      refine lv_if_eq (tgt := 44) hx hb dX3_foundAt_30 (by decide) (fun c_4 => ?_) (fun c_4 => ?_)
      · have hF := it_pos c_4 hF
        refine lv_iinc (v := (x5 + (1 : Int32))) (lv' := [(5, .int (x5 + (1 : Int32))), (0, .ref (g_t 0)), (1, .ref (g_p1 0)), (3, .int x3), (4, .int x4)]) hx hb dX3_foundAt_44 hl (k := 4) rfl (congrArg (fun z => x5 + z) (by decide)) (by decide) rfl (fun ls hl => ?_)
        refine lv_goto (tgt := 11) hx hb dX3_foundAt_47 (by decide) ?_
        exact ih t_hitBits x3 x4 (x5 + (1 : Int32)) H locs ls hP hD hS (lv_sub hl [1, 2, 3, 4, 0] rfl) hF
      · have hF := it_neg c_4 hF
        refine lv_iload hx hb dX3_foundAt_33 (lv_at hl 3 rfl) ?_
        refine lv_if_ne (tgt := 41) hx hb dX3_foundAt_35 (by decide) (fun c_5 => ?_) (fun c_5 => ?_)
        · have hF := it_neg c_5 hF
          refine lv_iinc (v := (x4 + (-1 : Int32))) (lv' := [(4, .int (x4 + (-1 : Int32))), (0, .ref (g_t 0)), (1, .ref (g_p1 0)), (3, .int x3), (5, .int x5)]) hx hb dX3_foundAt_41 hl (k := 3) rfl (congrArg (fun z => x4 + z) (by decide)) (by decide) rfl (fun ls hl => ?_)
          refine lv_iinc (v := (x5 + (1 : Int32))) (lv' := [(5, .int (x5 + (1 : Int32))), (4, .int (x4 + (-1 : Int32))), (0, .ref (g_t 0)), (1, .ref (g_p1 0)), (3, .int x3)]) hx hb dX3_foundAt_44 hl (k := 4) rfl (congrArg (fun z => x5 + z) (by decide)) (by decide) rfl (fun ls hl => ?_)
          refine lv_goto (tgt := 11) hx hb dX3_foundAt_47 (by decide) ?_
          exact ih t_hitBits x3 (x4 + (-1 : Int32)) (x5 + (1 : Int32)) H locs ls hP hD hS (lv_sub hl [2, 3, 4, 1, 0] rfl) hF
        · have hF := it_pos c_5 hF
          refine lv_iload hx hb dX3_foundAt_38 (lv_at hl 4 rfl) ?_
          obtain rfl := Option.some.inj hF
          exact HR 40 H locs ls dX3_foundAt_40 hP hD hS
def F_X3_foundAt (t_loud : Nat → Int32) (t_hitBits : Nat → Int32) (p1_gapCount : Int32) (p1_targetCount : Int32) (p1_gaps : Nat → Int32) (p1_settings : Nat → Int32) (p1_spots : Nat → Int32) (x2 : Int32) (x3 : Int32) : Option (Int32 × (Nat → Int32)) :=
  (F_X3_markHits t_loud t_hitBits p1_gapCount p1_gaps p1_settings).bind fun r_1 => (L_X3_foundAt_11 t_loud p1_gapCount p1_targetCount p1_gaps p1_settings p1_spots fu_ r_1 x3 x2 (0 : Int32))
set_option maxHeartbeats 4000000 in
set_option maxRecDepth 100000 in
theorem c_X3_foundAt (l : Launch) (D : va_G) (K : Nat → ClassId) (g_t : Nat → Nat) (g_p1 : Nat → Nat) (t_shownCount : Int32) (t_loud : Nat → Int32) (t_hitBits : Nat → Int32) (p1_gapCount : Int32) (p1_targetCount : Int32) (p1_lookCount : Int32) (p1_time : Int32) (p1_gone : Int32) (p1_gaps : Nat → Int32) (p1_settings : Nat → Int32) (p1_spots : Nat → Int32) (x2 : Int32) (x3 : Int32) (res : Int32 × (Nat → Int32)) (hF : F_X3_foundAt t_loud t_hitBits p1_gapCount p1_targetCount p1_gaps p1_settings p1_spots x2 x3 = some res) :
    Mi_ l yX3_foundAt wsX3_foundAt rmX3_foundAt D K [.ref (g_t 0), .ref (g_p1 0), .int x2, .int x3] (w_X3_foundAt K g_t g_p1 t_shownCount t_loud t_hitBits p1_gapCount p1_targetCount p1_lookCount p1_time p1_gone p1_gaps p1_settings p1_spots) (w_X3_foundAt K g_t g_p1 t_shownCount t_loud res.2 p1_gapCount p1_targetCount p1_lookCount p1_time p1_gone p1_gaps p1_settings p1_spots) (res.1) := by
  refine en_i (cc := cX3_foundAt) (maxL := 6) (own := RX3) (by decide) rfl rfl (Nat.le_of_ble_eq_true rfl) ?_
  intro p e s m args below meth c A Q H locs ls C0 hP hD hS hl HR
  obtain ⟨⟨hx, hb, hml, hown, hts⟩, hK, -⟩ := id C0
  have hl : lv_has ls 6 [(0, .ref (g_t 0)), (1, .ref (g_p1 0)), (2, .int x2), (3, .int x3)] := hl
  unfold F_X3_foundAt at hF
  refine lv_aload_n hx hb dX3_foundAt_0 rfl (lv_at hl 0 rfl) ?_
  refine lv_aload_n hx hb dX3_foundAt_1 rfl (lv_at hl 1 rfl) ?_
  obtain ⟨r_1, hc_2, hF⟩ := bn_some hF
  refine xc_v (wn := (w_X3_foundAt K g_t g_p1 t_shownCount t_loud r_1 p1_gapCount p1_targetCount p1_lookCount p1_time p1_gone p1_gaps p1_settings p1_spots)) hP hD hS C0.2.2.1 [0, 1, 2, 3, 4, 5] [6] [1, 2, 3, 4, 5, 6, 0] rfl rfl (by decide) (by decide) rfl (by decide) (va_runV (As := [.ref (g_p1 0)]) (rest := []) C0.1 (c_X3_markHits l D K g_t g_p1 t_shownCount t_loud t_hitBits p1_gapCount p1_targetCount p1_lookCount p1_time p1_gone p1_gaps p1_settings r_1 hc_2 H.size) (cwV 1 hts gX3_foundAt_X3_markHits rfl rfl rfl (by decide +kernel) ⟨Nat.le_of_ble_eq_true rfl, Nat.le_of_ble_eq_true rfl⟩) (xp_V C0.2 hP hD hS [0, 1, 2, 3, 4, 5] rfl (by decide) 3 0 rfl rfl rfl) rfl rfl hl.1 rfl (lv_room (Nat.le_of_ble_eq_true rfl)) dX3_foundAt_2 ⟨Nat.le_of_ble_eq_true rfl, Nat.le_of_ble_eq_true rfl⟩) (fun H locs hP hD hS => ?_)
  refine lv_iload_n hx hb dX3_foundAt_5 rfl (lv_at hl 2 rfl) ?_
  refine lv_istore (lv' := [(4, .int x2), (0, .ref (g_t 0)), (1, .ref (g_p1 0)), (2, .int x2), (3, .int x3)]) hx hb dX3_foundAt_6 hl (by decide) rfl (fun ls hl => ?_)
  refine lv_iconst (v := 0) hx hb dX3_foundAt_8 (by decide) ?_
  refine lv_istore (lv' := [(5, .int (0 : Int32)), (4, .int x2), (0, .ref (g_t 0)), (1, .ref (g_p1 0)), (2, .int x2), (3, .int x3)]) hx hb dX3_foundAt_9 hl (by decide) rfl (fun ls hl => ?_)
  exact w_X3_foundAt_11 C0 HR fu_ r_1 x3 x2 (0 : Int32) H locs ls hP hD hS (lv_sub hl [2, 3, 5, 1, 0] rfl) hF

/-! StaggerRadar.found(IZ)I -/
abbrev rmX10_found : Room := { frames := 5, cells := 0, slots := 0, locals := 115 }
theorem fl_X10_found_10 : Cond.fieldLink RX10 10 "StaggerRadar" "radar" "LStaggerRadar$Radar;" ∈ wsX10_found := by decide +kernel
theorem fl_X10_found_55 : Cond.fieldLink RX10 55 "StaggerRadar" "echoes" "LStaggerRadar$Echoes;" ∈ wsX10_found := by decide +kernel
theorem iw_X10_found_X10 : ∀ w ∈ u_ws RX10 TX10 14, w ∈ wsX10_found := by decide +kernel
theorem iw_X10_found_X3 : ∀ w ∈ u_ws RX3 TX3 6, w ∈ wsX10_found := by decide +kernel
theorem iw_X10_found_X5 : ∀ w ∈ u_ws RX5 TX5 13, w ∈ wsX10_found := by decide +kernel
abbrev w_X10_found (K : Nat → ClassId) (g_t : Nat → Nat) (g_t_radar : Nat → Nat) (g_t_draft : Nat → Nat) (g_t_text : Nat → Nat) (g_t_reader : Nat → Nat) (g_t_history : Nat → Nat) (g_t_echoes : Nat → Nat) (g_t_tracks : Nat → Nat) (g_t_dwelling : Nat → Nat) (g_t_chooser : Nat → Nat) (g_t_adviser : Nat → Nat) (t_radar_gapCount : Int32) (t_radar_targetCount : Int32) (t_radar_lookCount : Int32) (t_radar_time : Int32) (t_radar_gone : Int32) (t_radar_gaps : Nat → Int32) (t_radar_settings : Nat → Int32) (t_radar_spots : Nat → Int32) (t_radar_speeds : Nat → Int32) (t_radar_strengths : Nat → Int32) (t_echoes_shownCount : Int32) (t_echoes_targets : Nat → Int32) (t_echoes_loud : Nat → Int32) (t_echoes_hitBits : Nat → Int32) : va_W := [((g_t 0), .inr (9, [.ref (g_t_radar 0), .ref (g_t_draft 0), .ref (g_t_text 0), .ref (g_t_reader 0), .ref (g_t_history 0), .ref (g_t 6), .ref (g_t 7), .ref (g_t 8), .ref (g_t_echoes 0), .ref (g_t_tracks 0), .ref (g_t_dwelling 0), .ref (g_t_chooser 0), .ref (g_t_adviser 0), .ref (g_t 14)])), ((g_t_radar 0), .inr (5, [.ref (g_t_radar 1), .ref (g_t_radar 2), .ref (g_t_radar 3), .ref (g_t_radar 4), .ref (g_t_radar 5), .ref (g_t_radar 6), .ref (g_t_radar 7), .ref (g_t_radar 8), .int t_radar_gapCount, .int t_radar_targetCount, .int t_radar_lookCount, .int t_radar_time, .int t_radar_gone])), ((g_t_radar 1), .inl (K 0, 5, .inl t_radar_gaps)), ((g_t_radar 2), .inl (K 0, 7, .inl t_radar_settings)), ((g_t_radar 3), .inl (K 0, 8, .inl t_radar_spots)), ((g_t_radar 4), .inl (K 0, 8, .inl t_radar_speeds)), ((g_t_radar 5), .inl (K 0, 8, .inl t_radar_strengths)), ((g_t_echoes 0), .inr (3, [.ref (g_t_echoes 1), .ref (g_t_echoes 2), .ref (g_t_echoes 3), .ref (g_t_echoes 4), .ref (g_t_echoes 5), .int t_echoes_shownCount])), ((g_t_echoes 1), .inl (K 0, 300, .inl t_echoes_targets)), ((g_t_echoes 2), .inl (K 0, 300, .inl t_echoes_loud)), ((g_t_echoes 3), .inl (K 0, 1000, .inl t_echoes_hitBits))]
def F_X10_found (t_radar_gapCount : Int32) (t_radar_targetCount : Int32) (t_radar_gaps : Nat → Int32) (t_radar_settings : Nat → Int32) (t_radar_spots : Nat → Int32) (t_radar_speeds : Nat → Int32) (t_radar_strengths : Nat → Int32) (t_echoes_targets : Nat → Int32) (t_echoes_loud : Nat → Int32) (t_echoes_hitBits : Nat → Int32) (x1 : Int32) (x2 : Int32) : Option (Int32 × (Nat → Int32) × (Nat → Int32) × (Nat → Int32)) :=
  if (0 : Int32) ≤ x1 then ((F_X3_listen t_echoes_targets t_echoes_loud t_radar_gapCount t_radar_targetCount t_radar_gaps t_radar_settings t_radar_spots t_radar_speeds t_radar_strengths).bind fun r_2 => ((F_X3_foundAt r_2.2 t_echoes_hitBits t_radar_gapCount t_radar_targetCount t_radar_gaps t_radar_settings t_radar_spots x1 x2).bind fun r_4 => (some (r_4.1, r_2.1, r_2.2, r_4.2)))) else (some ((-1 : Int32), t_echoes_targets, t_echoes_loud, t_echoes_hitBits))
set_option maxHeartbeats 4000000 in
set_option maxRecDepth 100000 in
theorem c_X10_found (l : Launch) (D : va_G) (K : Nat → ClassId) (g_t : Nat → Nat) (g_t_radar : Nat → Nat) (g_t_draft : Nat → Nat) (g_t_text : Nat → Nat) (g_t_reader : Nat → Nat) (g_t_history : Nat → Nat) (g_t_echoes : Nat → Nat) (g_t_tracks : Nat → Nat) (g_t_dwelling : Nat → Nat) (g_t_chooser : Nat → Nat) (g_t_adviser : Nat → Nat) (t_radar_gapCount : Int32) (t_radar_targetCount : Int32) (t_radar_lookCount : Int32) (t_radar_time : Int32) (t_radar_gone : Int32) (t_radar_gaps : Nat → Int32) (t_radar_settings : Nat → Int32) (t_radar_spots : Nat → Int32) (t_radar_speeds : Nat → Int32) (t_radar_strengths : Nat → Int32) (t_echoes_shownCount : Int32) (t_echoes_targets : Nat → Int32) (t_echoes_loud : Nat → Int32) (t_echoes_hitBits : Nat → Int32) (x1 : Int32) (x2 : Int32) (res : Int32 × (Nat → Int32) × (Nat → Int32) × (Nat → Int32)) (hF : F_X10_found t_radar_gapCount t_radar_targetCount t_radar_gaps t_radar_settings t_radar_spots t_radar_speeds t_radar_strengths t_echoes_targets t_echoes_loud t_echoes_hitBits x1 x2 = some res) :
    Mi_ l yX10_found wsX10_found rmX10_found D K [.ref (g_t 0), .int x1, .int x2] (w_X10_found K g_t g_t_radar g_t_draft g_t_text g_t_reader g_t_history g_t_echoes g_t_tracks g_t_dwelling g_t_chooser g_t_adviser t_radar_gapCount t_radar_targetCount t_radar_lookCount t_radar_time t_radar_gone t_radar_gaps t_radar_settings t_radar_spots t_radar_speeds t_radar_strengths t_echoes_shownCount t_echoes_targets t_echoes_loud t_echoes_hitBits) (w_X10_found K g_t g_t_radar g_t_draft g_t_text g_t_reader g_t_history g_t_echoes g_t_tracks g_t_dwelling g_t_chooser g_t_adviser t_radar_gapCount t_radar_targetCount t_radar_lookCount t_radar_time t_radar_gone t_radar_gaps t_radar_settings t_radar_spots t_radar_speeds t_radar_strengths t_echoes_shownCount res.2.1 res.2.2.1 res.2.2.2) (res.1) := by
  refine en_i (cc := cX10_found) (maxL := 3) (own := RX10) (by decide) rfl rfl (Nat.le_of_ble_eq_true rfl) ?_
  intro p e s m args below meth c A Q H locs ls C0 hP hD hS hl HR
  obtain ⟨⟨hx, hb, hml, hown, hts⟩, hK, -⟩ := id C0
  have hl : lv_has ls 3 [(0, .ref (g_t 0)), (1, .int x1), (2, .int x2)] := hl
  unfold F_X10_found at hF
  refine lv_iload_n hx hb dX10_found_0 rfl (lv_at hl 1 rfl) ?_
  refine lv_if_ge (tgt := 6) hx hb dX10_found_1 (by decide) (fun c_1 => ?_) (fun c_1 => ?_)
  · have hF := it_pos c_1 hF
    refine lv_aload_n hx hb dX10_found_6 rfl (lv_at hl 0 rfl) ?_
    refine va_get (D := D) (ci := 9) (v := .ref (g_t_echoes 0)) (C := RX10) (T := TX10) (N := 14) hx hb hts iw_X10_found_X10 hown hK hP 0 rfl rfl 8 (by decide) (hts _ fl_X10_found_55) (fun _ h9 => h9) rfl dX10_found_7 ?_
    refine lv_aload_n hx hb dX10_found_10 rfl (lv_at hl 0 rfl) ?_
    refine va_get (D := D) (ci := 9) (v := .ref (g_t_radar 0)) (C := RX10) (T := TX10) (N := 14) hx hb hts iw_X10_found_X10 hown hK hP 0 rfl rfl 0 (by decide) (hts _ fl_X10_found_10) (fun _ h9 => h9) rfl dX10_found_11 ?_
    obtain ⟨r_2, hc_3, hF⟩ := bn_some hF
    refine xc_v (wn := (w_X10_found K g_t g_t_radar g_t_draft g_t_text g_t_reader g_t_history g_t_echoes g_t_tracks g_t_dwelling g_t_chooser g_t_adviser t_radar_gapCount t_radar_targetCount t_radar_lookCount t_radar_time t_radar_gone t_radar_gaps t_radar_settings t_radar_spots t_radar_speeds t_radar_strengths t_echoes_shownCount r_2.1 r_2.2 t_echoes_hitBits)) hP hD hS C0.2.2.1 [7, 8, 9, 1, 2, 3, 4, 5, 6] [0, 10] [0, 5, 6, 7, 8, 9, 10, 2, 3, 4, 1] rfl rfl (by decide) (by decide) rfl (by decide) (va_runV (As := [.ref (g_t_radar 0)]) (rest := []) C0.1 (c_X3_listen l D K g_t_echoes g_t_radar t_echoes_shownCount t_echoes_targets t_echoes_loud t_radar_gapCount t_radar_targetCount t_radar_lookCount t_radar_time t_radar_gone t_radar_gaps t_radar_settings t_radar_spots t_radar_speeds t_radar_strengths r_2 hc_3 H.size) (cwV 1 hts gX10_found_X3_listen rfl rfl rfl (by decide +kernel) ⟨Nat.le_of_ble_eq_true rfl, Nat.le_of_ble_eq_true rfl⟩) (xp_V C0.2 hP hD hS [7, 8, 9, 1, 2, 3, 4, 5, 6] rfl (by decide) 3 0 rfl rfl rfl) rfl rfl hl.1 rfl (lv_room (Nat.le_of_ble_eq_true rfl)) dX10_found_14 ⟨Nat.le_of_ble_eq_true rfl, Nat.le_of_ble_eq_true rfl⟩) (fun H locs hP hD hS => ?_)
    refine lv_aload_n hx hb dX10_found_17 rfl (lv_at hl 0 rfl) ?_
    refine va_get (D := D) (ci := 9) (v := .ref (g_t_echoes 0)) (C := RX10) (T := TX10) (N := 14) hx hb hts iw_X10_found_X10 hown hK hP 0 rfl rfl 8 (by decide) (hts _ fl_X10_found_55) (fun _ h9 => h9) rfl dX10_found_18 ?_
    refine lv_aload_n hx hb dX10_found_21 rfl (lv_at hl 0 rfl) ?_
    refine va_get (D := D) (ci := 9) (v := .ref (g_t_radar 0)) (C := RX10) (T := TX10) (N := 14) hx hb hts iw_X10_found_X10 hown hK hP 0 rfl rfl 0 (by decide) (hts _ fl_X10_found_10) (fun _ h9 => h9) rfl dX10_found_22 ?_
    refine lv_iload_n hx hb dX10_found_25 rfl (lv_at hl 1 rfl) ?_
    refine lv_iload_n hx hb dX10_found_26 rfl (lv_at hl 2 rfl) ?_
    obtain ⟨r_4, hc_5, hF⟩ := bn_some hF
    refine xc_i (wn := (w_X10_found K g_t g_t_radar g_t_draft g_t_text g_t_reader g_t_history g_t_echoes g_t_tracks g_t_dwelling g_t_chooser g_t_adviser t_radar_gapCount t_radar_targetCount t_radar_lookCount t_radar_time t_radar_gone t_radar_gaps t_radar_settings t_radar_spots t_radar_speeds t_radar_strengths t_echoes_shownCount r_2.1 r_2.2 r_4.2)) hP hD hS C0.2.2.1 [7, 9, 10, 1, 2, 3, 4] [0, 5, 6, 8] [0, 7, 8, 9, 10, 1, 2, 4, 3, 5, 6] rfl rfl (by decide) (by decide) rfl (by decide) (va_runV (As := [.ref (g_t_radar 0), .int x1, .int x2]) (rest := []) C0.1 (c_X3_foundAt l D K g_t_echoes g_t_radar t_echoes_shownCount r_2.2 t_echoes_hitBits t_radar_gapCount t_radar_targetCount t_radar_lookCount t_radar_time t_radar_gone t_radar_gaps t_radar_settings t_radar_spots x1 x2 r_4 hc_5 H.size) (cwV 3 hts gX10_found_X3_foundAt rfl rfl rfl (by decide +kernel) ⟨Nat.le_of_ble_eq_true rfl, Nat.le_of_ble_eq_true rfl⟩) (xp_V C0.2 hP hD hS [7, 9, 10, 1, 2, 3, 4] rfl (by decide) 3 0 rfl rfl rfl) rfl rfl hl.1 rfl (lv_room (Nat.le_of_ble_eq_true rfl)) dX10_found_27 ⟨Nat.le_of_ble_eq_true rfl, Nat.le_of_ble_eq_true rfl⟩) (fun H locs hP hD hS => ?_)
    obtain rfl := Option.some.inj hF
    exact HR 30 H locs ls dX10_found_30 hP hD hS
  · have hF := it_neg c_1 hF
    refine lv_iconst (v := (-1)) hx hb dX10_found_4 (by decide) ?_
    obtain rfl := Option.some.inj hF
    exact HR 5 H locs ls dX10_found_5 hP hD hS

/-! StaggerRadar.Radar.dropGap(I)V -/
abbrev rmX5_dropGap : Room := { frames := 1, cells := 0, slots := 0, locals := 21 }
theorem fl_X5_dropGap_9 : Cond.fieldLink RX5 9 "StaggerRadar$Radar" "gaps" "[I" ∈ wsX5_dropGap := by decide +kernel
theorem fl_X5_dropGap_45 : Cond.fieldLink RX5 45 "StaggerRadar$Radar" "gapCount" "I" ∈ wsX5_dropGap := by decide +kernel
theorem iw_X5_dropGap_X5 : ∀ w ∈ u_ws RX5 TX5 13, w ∈ wsX5_dropGap := by decide +kernel
abbrev w_X5_dropGap (K : Nat → ClassId) (g_t : Nat → Nat) (t_gapCount : Int32) (t_targetCount : Int32) (t_lookCount : Int32) (t_time : Int32) (t_gone : Int32) (t_gaps : Nat → Int32) : va_W := [((g_t 0), .inr (5, [.ref (g_t 1), .ref (g_t 2), .ref (g_t 3), .ref (g_t 4), .ref (g_t 5), .ref (g_t 6), .ref (g_t 7), .ref (g_t 8), .int t_gapCount, .int t_targetCount, .int t_lookCount, .int t_time, .int t_gone])), ((g_t 1), .inl (K 0, 5, .inl t_gaps))]
def L_X5_dropGap_21  : Nat → Int32 → (Nat → Int32) → Int32 → Option (Int32 × (Nat → Int32))
  | 0, _, _, _ => none
  | n_ + 1, t_gapCount, t_gaps, x2 =>
    if t_gapCount ≤ x2 then (some (t_gapCount, t_gaps)) else (gd_ (in_b (x2 + (1 : Int32)) 5) (gd_ (in_b x2 5) (L_X5_dropGap_21 n_ t_gapCount (upd t_gaps (x2).toNatClampNeg (t_gaps (x2 + (1 : Int32)).toNatClampNeg)) (x2 + (1 : Int32)))))
set_option maxHeartbeats 4000000 in
set_option maxRecDepth 100000 in
theorem w_X5_dropGap_21 {p : Program} {l : Launch} {e : Env} {s : State} {m : MethodId} {args : Array Value} {below : List Frame} {meth : Method} {c : Code} {D : va_G} {K : Nat → ClassId} {A : Nat → Prop} {Q : State → Prop} (C0 : cx_ p s m args c cX5_dropGap 3 RX5 wsX5_dropGap D K A) {g_t : Nat → Nat} {t_targetCount : Int32} {t_lookCount : Int32} {t_time : Int32} {t_gone : Int32} {res : Int32 × (Nat → Int32)} (HR : ∀ (pc : Nat) (H : Heap) (locs : List Loc) (ls : Array Slot), decode cX5_dropGap pc = .ok (.return_, 1) → va_P D vwCl (w_X5_dropGap K g_t res.1 t_targetCount t_lookCount t_time t_gone res.2) H → va_D A (w_X5_dropGap K g_t res.1 t_targetCount t_lookCount t_time t_gone res.2) → va_S A s.heap H locs → W p l e rmX5_dropGap s m args below meth c H locs 0 0 Q (F0 m pc ls []))  :
    ∀ (n_ : Nat) (t_gapCount : Int32) (t_gaps : Nat → Int32) (x2 : Int32) (H : Heap) (locs : List Loc) (ls : Array Slot), va_P D vwCl (w_X5_dropGap K g_t t_gapCount t_targetCount t_lookCount t_time t_gone t_gaps) H → va_D A (w_X5_dropGap K g_t t_gapCount t_targetCount t_lookCount t_time t_gone t_gaps) → va_S A s.heap H locs → lv_has ls 3 [(0, .ref (g_t 0)), (2, .int x2)] → L_X5_dropGap_21 n_ t_gapCount t_gaps x2 = some res → W p l e rmX5_dropGap s m args below meth c H locs 0 0 Q (F0 m 21 ls []) := by
  obtain ⟨⟨hx, hb, hml, hown, hts⟩, hK, -⟩ := id C0
  intro n_
  induction n_ with
  | zero =>
    intro t_gapCount t_gaps x2 H locs ls hP hD hS hl hF
    exact no_s (show (none : Option (Int32 × (Nat → Int32))) = some res from hF)
  | succ n_ ih =>
    intro t_gapCount t_gaps x2 H locs ls hP hD hS hl hF
    rw [L_X5_dropGap_21] at hF
    refine lv_iload_n hx hb dX5_dropGap_21 rfl (lv_at hl 1 rfl) ?_
    refine lv_aload_n hx hb dX5_dropGap_22 rfl (lv_at hl 0 rfl) ?_
    refine va_get (D := D) (ci := 5) (v := .int t_gapCount) (C := RX5) (T := TX5) (N := 13) hx hb hts iw_X5_dropGap_X5 hown hK hP 0 rfl rfl 8 (by decide) (hts _ fl_X5_dropGap_45) (fun _ h9 => h9) rfl dX5_dropGap_23 ?_
    refine lv_icmp_ge (tgt := 49) hx hb dX5_dropGap_26 (by decide) (fun c_1 => ?_) (fun c_1 => ?_)
    · have hF := it_pos c_1 hF
      obtain rfl := Option.some.inj hF
      exact HR 49 H locs ls dX5_dropGap_49 hP hD hS
    · have hF := it_neg c_1 hF
      refine lv_aload_n hx hb dX5_dropGap_29 rfl (lv_at hl 0 rfl) ?_
      refine va_get (D := D) (ci := 5) (v := .ref (g_t 1)) (C := RX5) (T := TX5) (N := 13) hx hb hts iw_X5_dropGap_X5 hown hK hP 0 rfl rfl 0 (by decide) (hts _ fl_X5_dropGap_9) (fun _ h9 => h9) rfl dX5_dropGap_30 ?_
      refine lv_iload_n hx hb dX5_dropGap_33 rfl (lv_at hl 1 rfl) ?_
      refine lv_aload_n hx hb dX5_dropGap_34 rfl (lv_at hl 0 rfl) ?_
      refine va_get (D := D) (ci := 5) (v := .ref (g_t 1)) (C := RX5) (T := TX5) (N := 13) hx hb hts iw_X5_dropGap_X5 hown hK hP 0 rfl rfl 0 (by decide) (hts _ fl_X5_dropGap_9) (fun _ h9 => h9) rfl dX5_dropGap_35 ?_
      refine lv_iload_n hx hb dX5_dropGap_38 rfl (lv_at hl 1 rfl) ?_
      refine lv_iconst (v := 1) hx hb dX5_dropGap_39 (by decide) ?_
      refine lv_iadd hx hb dX5_dropGap_40 ?_
      obtain ⟨hg_2, hF⟩ := gd_some hF
      refine xl_i (f := t_gaps) hx hb hK hP 1 0 rfl rfl rfl (in_v hg_2) dX5_dropGap_41 ?_
      obtain ⟨hg_3, hF⟩ := gd_some hF
      refine xs_i (f := t_gaps) hx hb hK hP hD hS 1 0 rfl rfl rfl (in_v hg_3) dX5_dropGap_42 (fun H locs hP hD hS => ?_)
      have hP : va_P D vwCl (w_X5_dropGap K g_t t_gapCount t_targetCount t_lookCount t_time t_gone (upd t_gaps (x2).toNatClampNeg (t_gaps (x2 + (1 : Int32)).toNatClampNeg))) H := hP
      have hD : va_D A (w_X5_dropGap K g_t t_gapCount t_targetCount t_lookCount t_time t_gone (upd t_gaps (x2).toNatClampNeg (t_gaps (x2 + (1 : Int32)).toNatClampNeg))) := hD
      refine lv_iinc (v := (x2 + (1 : Int32))) (lv' := [(2, .int (x2 + (1 : Int32))), (0, .ref (g_t 0))]) hx hb dX5_dropGap_43 hl (k := 1) rfl (congrArg (fun z => x2 + z) (by decide)) (by decide) rfl (fun ls hl => ?_)
      refine lv_goto (tgt := 21) hx hb dX5_dropGap_46 (by decide) ?_
      exact ih t_gapCount (upd t_gaps (x2).toNatClampNeg (t_gaps (x2 + (1 : Int32)).toNatClampNeg)) (x2 + (1 : Int32)) H locs ls hP hD hS (lv_sub hl [1, 0] rfl) hF
def F_X5_dropGap (t_gapCount : Int32) (t_gaps : Nat → Int32) (x1 : Int32) : Option (Int32 × (Nat → Int32)) :=
  (F_X5_hasGap t_gapCount x1).bind fun r_1 => (if r_1 = (0 : Int32) then (some (t_gapCount, t_gaps)) else (L_X5_dropGap_21 fu_ (t_gapCount - (1 : Int32)) t_gaps x1))
set_option maxHeartbeats 4000000 in
set_option maxRecDepth 100000 in
theorem c_X5_dropGap (l : Launch) (D : va_G) (K : Nat → ClassId) (g_t : Nat → Nat) (t_gapCount : Int32) (t_targetCount : Int32) (t_lookCount : Int32) (t_time : Int32) (t_gone : Int32) (t_gaps : Nat → Int32) (x1 : Int32) (res : Int32 × (Nat → Int32)) (hF : F_X5_dropGap t_gapCount t_gaps x1 = some res) :
    Mv_ l yX5_dropGap wsX5_dropGap rmX5_dropGap D K [.ref (g_t 0), .int x1] (w_X5_dropGap K g_t t_gapCount t_targetCount t_lookCount t_time t_gone t_gaps) (w_X5_dropGap K g_t res.1 t_targetCount t_lookCount t_time t_gone res.2) := by
  refine en_v (cc := cX5_dropGap) (maxL := 3) (own := RX5) (by decide) rfl rfl (Nat.le_of_ble_eq_true rfl) ?_
  intro p e s m args below meth c A Q H locs ls C0 hP hD hS hl HR
  obtain ⟨⟨hx, hb, hml, hown, hts⟩, hK, -⟩ := id C0
  have hl : lv_has ls 3 [(0, .ref (g_t 0)), (1, .int x1)] := hl
  unfold F_X5_dropGap at hF
  refine lv_aload_n hx hb dX5_dropGap_0 rfl (lv_at hl 0 rfl) ?_
  refine lv_iload_n hx hb dX5_dropGap_1 rfl (lv_at hl 1 rfl) ?_
  obtain ⟨r_1, hc_2, hF⟩ := bn_some hF
  refine xc_i (wn := (w_X5_dropGap K g_t t_gapCount t_targetCount t_lookCount t_time t_gone t_gaps)) hP hD hS C0.2.2.1 [0] [1] [1, 0] rfl rfl (by decide) (by decide) rfl (by decide) (va_runV (As := [.int x1]) (rest := []) C0.1 (c_X5_hasGap l D K g_t t_gapCount t_targetCount t_lookCount t_time t_gone x1 r_1 hc_2 H.size) (cwV 1 hts gX5_dropGap_X5_hasGap rfl rfl rfl (by decide +kernel) ⟨Nat.le_of_ble_eq_true rfl, Nat.le_of_ble_eq_true rfl⟩) (xp_V C0.2 hP hD hS [0] rfl (by decide) 5 0 rfl rfl rfl) rfl rfl hl.1 rfl (lv_room (Nat.le_of_ble_eq_true rfl)) dX5_dropGap_2 ⟨Nat.le_of_ble_eq_true rfl, Nat.le_of_ble_eq_true rfl⟩) (fun H locs hP hD hS => ?_)
  refine lv_if_ne (tgt := 9) hx hb dX5_dropGap_5 (by decide) (fun c_3 => ?_) (fun c_3 => ?_)
  · have hF := it_neg c_3 hF
    refine lv_aload_n hx hb dX5_dropGap_9 rfl (lv_at hl 0 rfl) ?_
    refine lv_dup hx hb dX5_dropGap_10 rfl ?_
    refine va_get (D := D) (ci := 5) (v := .int t_gapCount) (C := RX5) (T := TX5) (N := 13) hx hb hts iw_X5_dropGap_X5 hown hK hP 0 rfl rfl 8 (by decide) (hts _ fl_X5_dropGap_45) (fun _ h9 => h9) rfl dX5_dropGap_11 ?_
    refine lv_iconst (v := 1) hx hb dX5_dropGap_14 (by decide) ?_
    refine lv_isub hx hb dX5_dropGap_15 ?_
    refine va_put (D := D) (ci := 5) (v := .int (t_gapCount - (1 : Int32))) (ty := .int) (C := RX5) (T := TX5) (N := 13) hx hb hts iw_X5_dropGap_X5 tyX5 tyX5_ok nmX5 hown hK hP hD hS 0 rfl rfl 8 (by decide) (hts _ fl_X5_dropGap_45) (fun _ h9 => h9) rfl (by decide +kernel) rfl rfl (Nat.le_of_ble_eq_true rfl) dX5_dropGap_16 (fun H locs hP hD hS => ?_)
    have hP : va_P D vwCl (w_X5_dropGap K g_t (t_gapCount - (1 : Int32)) t_targetCount t_lookCount t_time t_gone t_gaps) H := hP
    have hD : va_D A (w_X5_dropGap K g_t (t_gapCount - (1 : Int32)) t_targetCount t_lookCount t_time t_gone t_gaps) := hD
    refine lv_iload_n hx hb dX5_dropGap_19 rfl (lv_at hl 1 rfl) ?_
    refine lv_istore_n (lv' := [(2, .int x1), (0, .ref (g_t 0)), (1, .int x1)]) hx hb dX5_dropGap_20 rfl hl (by decide) rfl (fun ls hl => ?_)
    exact w_X5_dropGap_21 C0 HR fu_ (t_gapCount - (1 : Int32)) t_gaps x1 H locs ls hP hD hS (lv_sub hl [1, 0] rfl) hF
  · have hF := it_pos c_3 hF
    obtain rfl := Option.some.inj hF
    exact HR 8 H locs ls dX5_dropGap_8 hP hD hS

/-! StaggerRadar.Radar.addGap(I)V -/
abbrev rmX5_addGap : Room := { frames := 0, cells := 0, slots := 0, locals := 0 }
theorem fl_X5_addGap_9 : Cond.fieldLink RX5 9 "StaggerRadar$Radar" "gaps" "[I" ∈ wsX5_addGap := by decide +kernel
theorem fl_X5_addGap_45 : Cond.fieldLink RX5 45 "StaggerRadar$Radar" "gapCount" "I" ∈ wsX5_addGap := by decide +kernel
theorem iw_X5_addGap_X5 : ∀ w ∈ u_ws RX5 TX5 13, w ∈ wsX5_addGap := by decide +kernel
abbrev w_X5_addGap (K : Nat → ClassId) (g_t : Nat → Nat) (t_gapCount : Int32) (t_targetCount : Int32) (t_lookCount : Int32) (t_time : Int32) (t_gone : Int32) (t_gaps : Nat → Int32) : va_W := [((g_t 0), .inr (5, [.ref (g_t 1), .ref (g_t 2), .ref (g_t 3), .ref (g_t 4), .ref (g_t 5), .ref (g_t 6), .ref (g_t 7), .ref (g_t 8), .int t_gapCount, .int t_targetCount, .int t_lookCount, .int t_time, .int t_gone])), ((g_t 1), .inl (K 0, 5, .inl t_gaps))]
def J_X5_addGap_50 (t_gapCount : Int32) (t_gaps : Nat → Int32) (x1 : Int32) (x2 : Int32) : Option (Int32 × (Nat → Int32)) :=
  gd_ (in_b x2 5) (some ((t_gapCount + (1 : Int32)), (upd t_gaps (x2).toNatClampNeg x1)))
set_option maxHeartbeats 4000000 in
set_option maxRecDepth 100000 in
theorem w_X5_addGap_50 {p : Program} {l : Launch} {e : Env} {s : State} {m : MethodId} {args : Array Value} {below : List Frame} {meth : Method} {c : Code} {D : va_G} {K : Nat → ClassId} {A : Nat → Prop} {Q : State → Prop} (C0 : cx_ p s m args c cX5_addGap 3 RX5 wsX5_addGap D K A) {g_t : Nat → Nat} {t_targetCount : Int32} {t_lookCount : Int32} {t_time : Int32} {t_gone : Int32} {res : Int32 × (Nat → Int32)} (HR : ∀ (pc : Nat) (H : Heap) (locs : List Loc) (ls : Array Slot), decode cX5_addGap pc = .ok (.return_, 1) → va_P D vwCl (w_X5_addGap K g_t res.1 t_targetCount t_lookCount t_time t_gone res.2) H → va_D A (w_X5_addGap K g_t res.1 t_targetCount t_lookCount t_time t_gone res.2) → va_S A s.heap H locs → W p l e rmX5_addGap s m args below meth c H locs 0 0 Q (F0 m pc ls []))  :
    ∀ (t_gapCount : Int32) (t_gaps : Nat → Int32) (x1 : Int32) (x2 : Int32) (H : Heap) (locs : List Loc) (ls : Array Slot), va_P D vwCl (w_X5_addGap K g_t t_gapCount t_targetCount t_lookCount t_time t_gone t_gaps) H → va_D A (w_X5_addGap K g_t t_gapCount t_targetCount t_lookCount t_time t_gone t_gaps) → va_S A s.heap H locs → lv_has ls 3 [(0, .ref (g_t 0)), (1, .int x1), (2, .int x2)] → J_X5_addGap_50 t_gapCount t_gaps x1 x2 = some res → W p l e rmX5_addGap s m args below meth c H locs 0 0 Q (F0 m 50 ls []) := by
  obtain ⟨⟨hx, hb, hml, hown, hts⟩, hK, -⟩ := id C0
  intro t_gapCount t_gaps x1 x2 H locs ls hP hD hS hl hF
  unfold J_X5_addGap_50 at hF
  refine lv_aload_n hx hb dX5_addGap_50 rfl (lv_at hl 0 rfl) ?_
  refine va_get (D := D) (ci := 5) (v := .ref (g_t 1)) (C := RX5) (T := TX5) (N := 13) hx hb hts iw_X5_addGap_X5 hown hK hP 0 rfl rfl 0 (by decide) (hts _ fl_X5_addGap_9) (fun _ h9 => h9) rfl dX5_addGap_51 ?_
  refine lv_iload_n hx hb dX5_addGap_54 rfl (lv_at hl 2 rfl) ?_
  refine lv_iload_n hx hb dX5_addGap_55 rfl (lv_at hl 1 rfl) ?_
  obtain ⟨hg_1, hF⟩ := gd_some hF
  refine xs_i (f := t_gaps) hx hb hK hP hD hS 1 0 rfl rfl rfl (in_v hg_1) dX5_addGap_56 (fun H locs hP hD hS => ?_)
  have hP : va_P D vwCl (w_X5_addGap K g_t t_gapCount t_targetCount t_lookCount t_time t_gone (upd t_gaps (x2).toNatClampNeg x1)) H := hP
  have hD : va_D A (w_X5_addGap K g_t t_gapCount t_targetCount t_lookCount t_time t_gone (upd t_gaps (x2).toNatClampNeg x1)) := hD
  refine lv_aload_n hx hb dX5_addGap_57 rfl (lv_at hl 0 rfl) ?_
  refine lv_dup hx hb dX5_addGap_58 rfl ?_
  refine va_get (D := D) (ci := 5) (v := .int t_gapCount) (C := RX5) (T := TX5) (N := 13) hx hb hts iw_X5_addGap_X5 hown hK hP 0 rfl rfl 8 (by decide) (hts _ fl_X5_addGap_45) (fun _ h9 => h9) rfl dX5_addGap_59 ?_
  refine lv_iconst (v := 1) hx hb dX5_addGap_62 (by decide) ?_
  refine lv_iadd hx hb dX5_addGap_63 ?_
  refine va_put (D := D) (ci := 5) (v := .int (t_gapCount + (1 : Int32))) (ty := .int) (C := RX5) (T := TX5) (N := 13) hx hb hts iw_X5_addGap_X5 tyX5 tyX5_ok nmX5 hown hK hP hD hS 0 rfl rfl 8 (by decide) (hts _ fl_X5_addGap_45) (fun _ h9 => h9) rfl (by decide +kernel) rfl rfl (Nat.le_of_ble_eq_true rfl) dX5_addGap_64 (fun H locs hP hD hS => ?_)
  have hP : va_P D vwCl (w_X5_addGap K g_t (t_gapCount + (1 : Int32)) t_targetCount t_lookCount t_time t_gone (upd t_gaps (x2).toNatClampNeg x1)) H := hP
  have hD : va_D A (w_X5_addGap K g_t (t_gapCount + (1 : Int32)) t_targetCount t_lookCount t_time t_gone (upd t_gaps (x2).toNatClampNeg x1)) := hD
  obtain rfl := Option.some.inj hF
  exact HR 67 H locs ls dX5_addGap_67 hP hD hS
def L_X5_addGap_14  : Nat → Int32 → (Nat → Int32) → Int32 → Int32 → Option (Int32 × (Nat → Int32))
  | 0, _, _, _, _ => none
  | n_ + 1, t_gapCount, t_gaps, x1, x2 =>
    if x2 ≤ (0 : Int32) then (J_X5_addGap_50 t_gapCount t_gaps x1 x2) else (gd_ (in_b (x2 - (1 : Int32)) 5) (if (t_gaps (x2 - (1 : Int32)).toNatClampNeg) ≤ x1 then (J_X5_addGap_50 t_gapCount t_gaps x1 x2) else (gd_ (in_b (x2 - (1 : Int32)) 5) (gd_ (in_b x2 5) (L_X5_addGap_14 n_ t_gapCount (upd t_gaps (x2).toNatClampNeg (t_gaps (x2 - (1 : Int32)).toNatClampNeg)) x1 (x2 + (-1 : Int32)))))))
set_option maxHeartbeats 4000000 in
set_option maxRecDepth 100000 in
theorem w_X5_addGap_14 {p : Program} {l : Launch} {e : Env} {s : State} {m : MethodId} {args : Array Value} {below : List Frame} {meth : Method} {c : Code} {D : va_G} {K : Nat → ClassId} {A : Nat → Prop} {Q : State → Prop} (C0 : cx_ p s m args c cX5_addGap 3 RX5 wsX5_addGap D K A) {g_t : Nat → Nat} {t_targetCount : Int32} {t_lookCount : Int32} {t_time : Int32} {t_gone : Int32} {res : Int32 × (Nat → Int32)} (HR : ∀ (pc : Nat) (H : Heap) (locs : List Loc) (ls : Array Slot), decode cX5_addGap pc = .ok (.return_, 1) → va_P D vwCl (w_X5_addGap K g_t res.1 t_targetCount t_lookCount t_time t_gone res.2) H → va_D A (w_X5_addGap K g_t res.1 t_targetCount t_lookCount t_time t_gone res.2) → va_S A s.heap H locs → W p l e rmX5_addGap s m args below meth c H locs 0 0 Q (F0 m pc ls []))  :
    ∀ (n_ : Nat) (t_gapCount : Int32) (t_gaps : Nat → Int32) (x1 : Int32) (x2 : Int32) (H : Heap) (locs : List Loc) (ls : Array Slot), va_P D vwCl (w_X5_addGap K g_t t_gapCount t_targetCount t_lookCount t_time t_gone t_gaps) H → va_D A (w_X5_addGap K g_t t_gapCount t_targetCount t_lookCount t_time t_gone t_gaps) → va_S A s.heap H locs → lv_has ls 3 [(0, .ref (g_t 0)), (1, .int x1), (2, .int x2)] → L_X5_addGap_14 n_ t_gapCount t_gaps x1 x2 = some res → W p l e rmX5_addGap s m args below meth c H locs 0 0 Q (F0 m 14 ls []) := by
  obtain ⟨⟨hx, hb, hml, hown, hts⟩, hK, -⟩ := id C0
  intro n_
  induction n_ with
  | zero =>
    intro t_gapCount t_gaps x1 x2 H locs ls hP hD hS hl hF
    exact no_s (show (none : Option (Int32 × (Nat → Int32))) = some res from hF)
  | succ n_ ih =>
    intro t_gapCount t_gaps x1 x2 H locs ls hP hD hS hl hF
    rw [L_X5_addGap_14] at hF
    refine lv_iload_n hx hb dX5_addGap_14 rfl (lv_at hl 2 rfl) ?_
    refine lv_if_le (tgt := 50) hx hb dX5_addGap_15 (by decide) (fun c_1 => ?_) (fun c_1 => ?_)
    · have hF := it_pos c_1 hF
      exact w_X5_addGap_50 C0 HR t_gapCount t_gaps x1 x2 H locs ls hP hD hS (lv_sub hl [0, 1, 2] rfl) hF
    · have hF := it_neg c_1 hF
      refine lv_aload_n hx hb dX5_addGap_18 rfl (lv_at hl 0 rfl) ?_
      refine va_get (D := D) (ci := 5) (v := .ref (g_t 1)) (C := RX5) (T := TX5) (N := 13) hx hb hts iw_X5_addGap_X5 hown hK hP 0 rfl rfl 0 (by decide) (hts _ fl_X5_addGap_9) (fun _ h9 => h9) rfl dX5_addGap_19 ?_
      refine lv_iload_n hx hb dX5_addGap_22 rfl (lv_at hl 2 rfl) ?_
      refine lv_iconst (v := 1) hx hb dX5_addGap_23 (by decide) ?_
      refine lv_isub hx hb dX5_addGap_24 ?_
      obtain ⟨hg_2, hF⟩ := gd_some hF
      refine xl_i (f := t_gaps) hx hb hK hP 1 0 rfl rfl rfl (in_v hg_2) dX5_addGap_25 ?_
      refine lv_iload_n hx hb dX5_addGap_26 rfl (lv_at hl 1 rfl) ?_
      refine lv_icmp_le (tgt := 50) hx hb dX5_addGap_27 (by decide) (fun c_3 => ?_) (fun c_3 => ?_)
      · have hF := it_pos c_3 hF
        exact w_X5_addGap_50 C0 HR t_gapCount t_gaps x1 x2 H locs ls hP hD hS (lv_sub hl [0, 1, 2] rfl) hF
      · have hF := it_neg c_3 hF
        refine lv_aload_n hx hb dX5_addGap_30 rfl (lv_at hl 0 rfl) ?_
        refine va_get (D := D) (ci := 5) (v := .ref (g_t 1)) (C := RX5) (T := TX5) (N := 13) hx hb hts iw_X5_addGap_X5 hown hK hP 0 rfl rfl 0 (by decide) (hts _ fl_X5_addGap_9) (fun _ h9 => h9) rfl dX5_addGap_31 ?_
        refine lv_iload_n hx hb dX5_addGap_34 rfl (lv_at hl 2 rfl) ?_
        refine lv_aload_n hx hb dX5_addGap_35 rfl (lv_at hl 0 rfl) ?_
        refine va_get (D := D) (ci := 5) (v := .ref (g_t 1)) (C := RX5) (T := TX5) (N := 13) hx hb hts iw_X5_addGap_X5 hown hK hP 0 rfl rfl 0 (by decide) (hts _ fl_X5_addGap_9) (fun _ h9 => h9) rfl dX5_addGap_36 ?_
        refine lv_iload_n hx hb dX5_addGap_39 rfl (lv_at hl 2 rfl) ?_
        refine lv_iconst (v := 1) hx hb dX5_addGap_40 (by decide) ?_
        refine lv_isub hx hb dX5_addGap_41 ?_
        obtain ⟨hg_4, hF⟩ := gd_some hF
        refine xl_i (f := t_gaps) hx hb hK hP 1 0 rfl rfl rfl (in_v hg_4) dX5_addGap_42 ?_
        obtain ⟨hg_5, hF⟩ := gd_some hF
        refine xs_i (f := t_gaps) hx hb hK hP hD hS 1 0 rfl rfl rfl (in_v hg_5) dX5_addGap_43 (fun H locs hP hD hS => ?_)
        have hP : va_P D vwCl (w_X5_addGap K g_t t_gapCount t_targetCount t_lookCount t_time t_gone (upd t_gaps (x2).toNatClampNeg (t_gaps (x2 - (1 : Int32)).toNatClampNeg))) H := hP
        have hD : va_D A (w_X5_addGap K g_t t_gapCount t_targetCount t_lookCount t_time t_gone (upd t_gaps (x2).toNatClampNeg (t_gaps (x2 - (1 : Int32)).toNatClampNeg))) := hD
        refine lv_iinc (v := (x2 + (-1 : Int32))) (lv' := [(2, .int (x2 + (-1 : Int32))), (0, .ref (g_t 0)), (1, .int x1)]) hx hb dX5_addGap_44 hl (k := 2) rfl (congrArg (fun z => x2 + z) (by decide)) (by decide) rfl (fun ls hl => ?_)
        refine lv_goto (tgt := 14) hx hb dX5_addGap_47 (by decide) ?_
        exact ih t_gapCount (upd t_gaps (x2).toNatClampNeg (t_gaps (x2 - (1 : Int32)).toNatClampNeg)) x1 (x2 + (-1 : Int32)) H locs ls hP hD hS (lv_sub hl [1, 2, 0] rfl) hF
def F_X5_addGap (t_gapCount : Int32) (t_gaps : Nat → Int32) (x1 : Int32) : Option (Int32 × (Nat → Int32)) :=
  if t_gapCount < (5 : Int32) then (L_X5_addGap_14 fu_ t_gapCount t_gaps x1 t_gapCount) else (some (t_gapCount, t_gaps))
set_option maxHeartbeats 4000000 in
set_option maxRecDepth 100000 in
theorem c_X5_addGap (l : Launch) (D : va_G) (K : Nat → ClassId) (g_t : Nat → Nat) (t_gapCount : Int32) (t_targetCount : Int32) (t_lookCount : Int32) (t_time : Int32) (t_gone : Int32) (t_gaps : Nat → Int32) (x1 : Int32) (res : Int32 × (Nat → Int32)) (hF : F_X5_addGap t_gapCount t_gaps x1 = some res) :
    Mv_ l yX5_addGap wsX5_addGap rmX5_addGap D K [.ref (g_t 0), .int x1] (w_X5_addGap K g_t t_gapCount t_targetCount t_lookCount t_time t_gone t_gaps) (w_X5_addGap K g_t res.1 t_targetCount t_lookCount t_time t_gone res.2) := by
  refine en_v (cc := cX5_addGap) (maxL := 3) (own := RX5) (by decide) rfl rfl (Nat.le_of_ble_eq_true rfl) ?_
  intro p e s m args below meth c A Q H locs ls C0 hP hD hS hl HR
  obtain ⟨⟨hx, hb, hml, hown, hts⟩, hK, -⟩ := id C0
  have hl : lv_has ls 3 [(0, .ref (g_t 0)), (1, .int x1)] := hl
  unfold F_X5_addGap at hF
  refine lv_aload_n hx hb dX5_addGap_0 rfl (lv_at hl 0 rfl) ?_
  refine va_get (D := D) (ci := 5) (v := .int t_gapCount) (C := RX5) (T := TX5) (N := 13) hx hb hts iw_X5_addGap_X5 hown hK hP 0 rfl rfl 8 (by decide) (hts _ fl_X5_addGap_45) (fun _ h9 => h9) rfl dX5_addGap_1 ?_
  refine lv_iconst (v := 5) hx hb dX5_addGap_4 (by decide) ?_
  refine lv_icmp_lt (tgt := 9) hx hb dX5_addGap_5 (by decide) (fun c_1 => ?_) (fun c_1 => ?_)
  · have hF := it_pos c_1 hF
    refine lv_aload_n hx hb dX5_addGap_9 rfl (lv_at hl 0 rfl) ?_
    refine va_get (D := D) (ci := 5) (v := .int t_gapCount) (C := RX5) (T := TX5) (N := 13) hx hb hts iw_X5_addGap_X5 hown hK hP 0 rfl rfl 8 (by decide) (hts _ fl_X5_addGap_45) (fun _ h9 => h9) rfl dX5_addGap_10 ?_
    refine lv_istore_n (lv' := [(2, .int t_gapCount), (0, .ref (g_t 0)), (1, .int x1)]) hx hb dX5_addGap_13 rfl hl (by decide) rfl (fun ls hl => ?_)
    exact w_X5_addGap_14 C0 HR fu_ t_gapCount t_gaps x1 t_gapCount H locs ls hP hD hS (lv_sub hl [1, 2, 0] rfl) hF
  · have hF := it_neg c_1 hF
    obtain rfl := Option.some.inj hF
    exact HR 8 H locs ls dX5_addGap_8 hP hD hS

/-! StaggerRadar.hits(I)I -/
abbrev rmX10_hits : Room := { frames := 5, cells := 0, slots := 0, locals := 115 }
theorem fl_X10_hits_10 : Cond.fieldLink RX10 10 "StaggerRadar" "radar" "LStaggerRadar$Radar;" ∈ wsX10_hits := by decide +kernel
theorem fl_X10_hits_55 : Cond.fieldLink RX10 55 "StaggerRadar" "echoes" "LStaggerRadar$Echoes;" ∈ wsX10_hits := by decide +kernel
theorem iw_X10_hits_X10 : ∀ w ∈ u_ws RX10 TX10 14, w ∈ wsX10_hits := by decide +kernel
theorem iw_X10_hits_X3 : ∀ w ∈ u_ws RX3 TX3 6, w ∈ wsX10_hits := by decide +kernel
theorem iw_X10_hits_X5 : ∀ w ∈ u_ws RX5 TX5 13, w ∈ wsX10_hits := by decide +kernel
abbrev w_X10_hits (K : Nat → ClassId) (g_t : Nat → Nat) (g_t_radar : Nat → Nat) (g_t_draft : Nat → Nat) (g_t_text : Nat → Nat) (g_t_reader : Nat → Nat) (g_t_history : Nat → Nat) (g_t_echoes : Nat → Nat) (g_t_tracks : Nat → Nat) (g_t_dwelling : Nat → Nat) (g_t_chooser : Nat → Nat) (g_t_adviser : Nat → Nat) (t_radar_gapCount : Int32) (t_radar_targetCount : Int32) (t_radar_lookCount : Int32) (t_radar_time : Int32) (t_radar_gone : Int32) (t_radar_gaps : Nat → Int32) (t_radar_settings : Nat → Int32) (t_radar_spots : Nat → Int32) (t_radar_speeds : Nat → Int32) (t_radar_strengths : Nat → Int32) (t_echoes_shownCount : Int32) (t_echoes_targets : Nat → Int32) (t_echoes_loud : Nat → Int32) : va_W := [((g_t 0), .inr (9, [.ref (g_t_radar 0), .ref (g_t_draft 0), .ref (g_t_text 0), .ref (g_t_reader 0), .ref (g_t_history 0), .ref (g_t 6), .ref (g_t 7), .ref (g_t 8), .ref (g_t_echoes 0), .ref (g_t_tracks 0), .ref (g_t_dwelling 0), .ref (g_t_chooser 0), .ref (g_t_adviser 0), .ref (g_t 14)])), ((g_t_radar 0), .inr (5, [.ref (g_t_radar 1), .ref (g_t_radar 2), .ref (g_t_radar 3), .ref (g_t_radar 4), .ref (g_t_radar 5), .ref (g_t_radar 6), .ref (g_t_radar 7), .ref (g_t_radar 8), .int t_radar_gapCount, .int t_radar_targetCount, .int t_radar_lookCount, .int t_radar_time, .int t_radar_gone])), ((g_t_radar 1), .inl (K 0, 5, .inl t_radar_gaps)), ((g_t_radar 2), .inl (K 0, 7, .inl t_radar_settings)), ((g_t_radar 3), .inl (K 0, 8, .inl t_radar_spots)), ((g_t_radar 4), .inl (K 0, 8, .inl t_radar_speeds)), ((g_t_radar 5), .inl (K 0, 8, .inl t_radar_strengths)), ((g_t_echoes 0), .inr (3, [.ref (g_t_echoes 1), .ref (g_t_echoes 2), .ref (g_t_echoes 3), .ref (g_t_echoes 4), .ref (g_t_echoes 5), .int t_echoes_shownCount])), ((g_t_echoes 1), .inl (K 0, 300, .inl t_echoes_targets)), ((g_t_echoes 2), .inl (K 0, 300, .inl t_echoes_loud))]
def F_X10_hits (t_radar_gapCount : Int32) (t_radar_targetCount : Int32) (t_radar_gaps : Nat → Int32) (t_radar_settings : Nat → Int32) (t_radar_spots : Nat → Int32) (t_radar_speeds : Nat → Int32) (t_radar_strengths : Nat → Int32) (t_echoes_targets : Nat → Int32) (t_echoes_loud : Nat → Int32) (x1 : Int32) : Option (Int32 × (Nat → Int32) × (Nat → Int32)) :=
  (F_X10_isWithin x1 (0 : Int32) (9999 : Int32)).bind fun r_1 => (if r_1 = (0 : Int32) then (some ((-1 : Int32), t_echoes_targets, t_echoes_loud)) else ((F_X3_listen t_echoes_targets t_echoes_loud t_radar_gapCount t_radar_targetCount t_radar_gaps t_radar_settings t_radar_spots t_radar_speeds t_radar_strengths).bind fun r_4 => ((F_X3_hitsOf r_4.2 t_radar_gapCount t_radar_gaps t_radar_settings x1).bind fun r_6 => (some (r_6, r_4.1, r_4.2)))))
set_option maxHeartbeats 4000000 in
set_option maxRecDepth 100000 in
theorem c_X10_hits (l : Launch) (D : va_G) (K : Nat → ClassId) (g_t : Nat → Nat) (g_t_radar : Nat → Nat) (g_t_draft : Nat → Nat) (g_t_text : Nat → Nat) (g_t_reader : Nat → Nat) (g_t_history : Nat → Nat) (g_t_echoes : Nat → Nat) (g_t_tracks : Nat → Nat) (g_t_dwelling : Nat → Nat) (g_t_chooser : Nat → Nat) (g_t_adviser : Nat → Nat) (t_radar_gapCount : Int32) (t_radar_targetCount : Int32) (t_radar_lookCount : Int32) (t_radar_time : Int32) (t_radar_gone : Int32) (t_radar_gaps : Nat → Int32) (t_radar_settings : Nat → Int32) (t_radar_spots : Nat → Int32) (t_radar_speeds : Nat → Int32) (t_radar_strengths : Nat → Int32) (t_echoes_shownCount : Int32) (t_echoes_targets : Nat → Int32) (t_echoes_loud : Nat → Int32) (x1 : Int32) (res : Int32 × (Nat → Int32) × (Nat → Int32)) (hF : F_X10_hits t_radar_gapCount t_radar_targetCount t_radar_gaps t_radar_settings t_radar_spots t_radar_speeds t_radar_strengths t_echoes_targets t_echoes_loud x1 = some res) :
    Mi_ l yX10_hits wsX10_hits rmX10_hits D K [.ref (g_t 0), .int x1] (w_X10_hits K g_t g_t_radar g_t_draft g_t_text g_t_reader g_t_history g_t_echoes g_t_tracks g_t_dwelling g_t_chooser g_t_adviser t_radar_gapCount t_radar_targetCount t_radar_lookCount t_radar_time t_radar_gone t_radar_gaps t_radar_settings t_radar_spots t_radar_speeds t_radar_strengths t_echoes_shownCount t_echoes_targets t_echoes_loud) (w_X10_hits K g_t g_t_radar g_t_draft g_t_text g_t_reader g_t_history g_t_echoes g_t_tracks g_t_dwelling g_t_chooser g_t_adviser t_radar_gapCount t_radar_targetCount t_radar_lookCount t_radar_time t_radar_gone t_radar_gaps t_radar_settings t_radar_spots t_radar_speeds t_radar_strengths t_echoes_shownCount res.2.1 res.2.2) (res.1) := by
  refine en_i (cc := cX10_hits) (maxL := 2) (own := RX10) (by decide) rfl rfl (Nat.le_of_ble_eq_true rfl) ?_
  intro p e s m args below meth c A Q H locs ls C0 hP hD hS hl HR
  obtain ⟨⟨hx, hb, hml, hown, hts⟩, hK, -⟩ := id C0
  have hl : lv_has ls 2 [(0, .ref (g_t 0)), (1, .int x1)] := hl
  unfold F_X10_hits at hF
  refine lv_iload_n hx hb dX10_hits_0 rfl (lv_at hl 1 rfl) ?_
  refine lv_iconst (v := 0) hx hb dX10_hits_1 (by decide) ?_
  refine lv_sipush (v := 9999) hx hb dX10_hits_2 (by decide) ?_
  obtain ⟨r_1, hc_2, hF⟩ := bn_some hF
  refine xc_i (wn := (w_X10_hits K g_t g_t_radar g_t_draft g_t_text g_t_reader g_t_history g_t_echoes g_t_tracks g_t_dwelling g_t_chooser g_t_adviser t_radar_gapCount t_radar_targetCount t_radar_lookCount t_radar_time t_radar_gone t_radar_gaps t_radar_settings t_radar_spots t_radar_speeds t_radar_strengths t_echoes_shownCount t_echoes_targets t_echoes_loud)) hP hD hS C0.2.2.1 [] [0, 1, 2, 3, 4, 5, 6, 7, 8, 9] [0, 1, 2, 3, 4, 5, 6, 7, 8, 9] rfl rfl (by decide) (by decide) rfl (by decide) (va_runS (As := [.int x1, .int (0 : Int32), .int (9999 : Int32)]) (rest := []) C0.1 (c_X10_isWithin l D K x1 (0 : Int32) (9999 : Int32) r_1 hc_2 H.size) (va_cwS 3 hts gX10_hits_X10_isWithin rfl rfl rfl (by decide +kernel) ⟨Nat.le_of_ble_eq_true rfl, Nat.le_of_ble_eq_true rfl⟩) (xp_S C0.2 hP hD hS [] rfl (by decide)) rfl rfl hl.1 rfl (lv_room (Nat.le_of_ble_eq_true rfl)) dX10_hits_5 ⟨Nat.le_of_ble_eq_true rfl, Nat.le_of_ble_eq_true rfl⟩) (fun H locs hP hD hS => ?_)
  refine lv_if_ne (tgt := 13) hx hb dX10_hits_8 (by decide) (fun c_3 => ?_) (fun c_3 => ?_)
  · have hF := it_neg c_3 hF
    refine lv_aload_n hx hb dX10_hits_13 rfl (lv_at hl 0 rfl) ?_
    refine va_get (D := D) (ci := 9) (v := .ref (g_t_echoes 0)) (C := RX10) (T := TX10) (N := 14) hx hb hts iw_X10_hits_X10 hown hK hP 0 rfl rfl 8 (by decide) (hts _ fl_X10_hits_55) (fun _ h9 => h9) rfl dX10_hits_14 ?_
    refine lv_aload_n hx hb dX10_hits_17 rfl (lv_at hl 0 rfl) ?_
    refine va_get (D := D) (ci := 9) (v := .ref (g_t_radar 0)) (C := RX10) (T := TX10) (N := 14) hx hb hts iw_X10_hits_X10 hown hK hP 0 rfl rfl 0 (by decide) (hts _ fl_X10_hits_10) (fun _ h9 => h9) rfl dX10_hits_18 ?_
    obtain ⟨r_4, hc_5, hF⟩ := bn_some hF
    refine xc_v (wn := (w_X10_hits K g_t g_t_radar g_t_draft g_t_text g_t_reader g_t_history g_t_echoes g_t_tracks g_t_dwelling g_t_chooser g_t_adviser t_radar_gapCount t_radar_targetCount t_radar_lookCount t_radar_time t_radar_gone t_radar_gaps t_radar_settings t_radar_spots t_radar_speeds t_radar_strengths t_echoes_shownCount r_4.1 r_4.2)) hP hD hS C0.2.2.1 [7, 8, 9, 1, 2, 3, 4, 5, 6] [0] [0, 4, 5, 6, 7, 8, 9, 1, 2, 3] rfl rfl (by decide) (by decide) rfl (by decide) (va_runV (As := [.ref (g_t_radar 0)]) (rest := []) C0.1 (c_X3_listen l D K g_t_echoes g_t_radar t_echoes_shownCount t_echoes_targets t_echoes_loud t_radar_gapCount t_radar_targetCount t_radar_lookCount t_radar_time t_radar_gone t_radar_gaps t_radar_settings t_radar_spots t_radar_speeds t_radar_strengths r_4 hc_5 H.size) (cwV 1 hts gX10_hits_X3_listen rfl rfl rfl (by decide +kernel) ⟨Nat.le_of_ble_eq_true rfl, Nat.le_of_ble_eq_true rfl⟩) (xp_V C0.2 hP hD hS [7, 8, 9, 1, 2, 3, 4, 5, 6] rfl (by decide) 3 0 rfl rfl rfl) rfl rfl hl.1 rfl (lv_room (Nat.le_of_ble_eq_true rfl)) dX10_hits_21 ⟨Nat.le_of_ble_eq_true rfl, Nat.le_of_ble_eq_true rfl⟩) (fun H locs hP hD hS => ?_)
    refine lv_aload_n hx hb dX10_hits_24 rfl (lv_at hl 0 rfl) ?_
    refine va_get (D := D) (ci := 9) (v := .ref (g_t_echoes 0)) (C := RX10) (T := TX10) (N := 14) hx hb hts iw_X10_hits_X10 hown hK hP 0 rfl rfl 8 (by decide) (hts _ fl_X10_hits_55) (fun _ h9 => h9) rfl dX10_hits_25 ?_
    refine lv_aload_n hx hb dX10_hits_28 rfl (lv_at hl 0 rfl) ?_
    refine va_get (D := D) (ci := 9) (v := .ref (g_t_radar 0)) (C := RX10) (T := TX10) (N := 14) hx hb hts iw_X10_hits_X10 hown hK hP 0 rfl rfl 0 (by decide) (hts _ fl_X10_hits_10) (fun _ h9 => h9) rfl dX10_hits_29 ?_
    refine lv_iload_n hx hb dX10_hits_32 rfl (lv_at hl 1 rfl) ?_
    obtain ⟨r_6, hc_7, hF⟩ := bn_some hF
    refine xc_i (wn := (w_X10_hits K g_t g_t_radar g_t_draft g_t_text g_t_reader g_t_history g_t_echoes g_t_tracks g_t_dwelling g_t_chooser g_t_adviser t_radar_gapCount t_radar_targetCount t_radar_lookCount t_radar_time t_radar_gone t_radar_gaps t_radar_settings t_radar_spots t_radar_speeds t_radar_strengths t_echoes_shownCount r_4.1 r_4.2)) hP hD hS C0.2.2.1 [7, 9, 1, 2, 3] [0, 4, 5, 6, 8] [0, 7, 8, 9, 1, 2, 3, 5, 4, 6] rfl rfl (by decide) (by decide) rfl (by decide) (va_runV (As := [.ref (g_t_radar 0), .int x1]) (rest := []) C0.1 (c_X3_hitsOf l D K g_t_echoes g_t_radar t_echoes_shownCount r_4.2 t_radar_gapCount t_radar_targetCount t_radar_lookCount t_radar_time t_radar_gone t_radar_gaps t_radar_settings x1 r_6 hc_7 H.size) (cwV 2 hts gX10_hits_X3_hitsOf rfl rfl rfl (by decide +kernel) ⟨Nat.le_of_ble_eq_true rfl, Nat.le_of_ble_eq_true rfl⟩) (xp_V C0.2 hP hD hS [7, 9, 1, 2, 3] rfl (by decide) 3 0 rfl rfl rfl) rfl rfl hl.1 rfl (lv_room (Nat.le_of_ble_eq_true rfl)) dX10_hits_33 ⟨Nat.le_of_ble_eq_true rfl, Nat.le_of_ble_eq_true rfl⟩) (fun H locs hP hD hS => ?_)
    obtain rfl := Option.some.inj hF
    exact HR 36 H locs ls dX10_hits_36 hP hD hS
  · have hF := it_pos c_3 hF
    refine lv_iconst (v := (-1)) hx hb dX10_hits_11 (by decide) ?_
    obtain rfl := Option.some.inj hF
    exact HR 12 H locs ls dX10_hits_12 hP hD hS
