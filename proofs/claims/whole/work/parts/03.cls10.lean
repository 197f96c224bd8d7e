/-! StaggerRadar.shaken(IZ)I -/
abbrev rmX10_shaken : Room := { frames := 4, cells := 0, slots := 0, locals := 97 }
theorem fl_X10_shaken_10 : Cond.fieldLink RX10 10 "StaggerRadar" "radar" "LStaggerRadar$Radar;" ∈ wsX10_shaken := by decide +kernel
theorem iw_X10_shaken_X10 : ∀ w ∈ u_ws RX10 TX10 14, w ∈ wsX10_shaken := by decide +kernel
theorem iw_X10_shaken_X5 : ∀ w ∈ u_ws RX5 TX5 13, w ∈ wsX10_shaken := by decide +kernel
abbrev w_X10_shaken (K : Nat → ClassId) (g_t : Nat → Nat) (g_t_radar : Nat → Nat) (g_t_draft : Nat → Nat) (g_t_text : Nat → Nat) (g_t_reader : Nat → Nat) (g_t_history : Nat → Nat) (g_t_echoes : Nat → Nat) (g_t_tracks : Nat → Nat) (g_t_dwelling : Nat → Nat) (g_t_chooser : Nat → Nat) (g_t_adviser : Nat → Nat) (t_radar_gapCount : Int32) (t_radar_targetCount : Int32) (t_radar_lookCount : Int32) (t_radar_time : Int32) (t_radar_gone : Int32) (t_radar_gaps : Nat → Int32) (t_radar_settings : Nat → Int32) : va_W := [((g_t 0), .inr (9, [.ref (g_t_radar 0), .ref (g_t_draft 0), .ref (g_t_text 0), .ref (g_t_reader 0), .ref (g_t_history 0), .ref (g_t 6), .ref (g_t 7), .ref (g_t 8), .ref (g_t_echoes 0), .ref (g_t_tracks 0), .ref (g_t_dwelling 0), .ref (g_t_chooser 0), .ref (g_t_adviser 0), .ref (g_t 14)])), ((g_t_radar 0), .inr (5, [.ref (g_t_radar 1), .ref (g_t_radar 2), .ref (g_t_radar 3), .ref (g_t_radar 4), .ref (g_t_radar 5), .ref (g_t_radar 6), .ref (g_t_radar 7), .ref (g_t_radar 8), .int t_radar_gapCount, .int t_radar_targetCount, .int t_radar_lookCount, .int t_radar_time, .int t_radar_gone])), ((g_t_radar 1), .inl (K 0, 5, .inl t_radar_gaps)), ((g_t_radar 2), .inl (K 0, 7, .inl t_radar_settings))]
def F_X10_shaken (t_radar_gapCount : Int32) (t_radar_gaps : Nat → Int32) (t_radar_settings : Nat → Int32) (x1 : Int32) (x2 : Int32) : Option (Int32) :=
  (F_X10_isWithin x1 (0 : Int32) (3 : Int32)).bind fun r_1 => (if r_1 = (0 : Int32) then (some (-1 : Int32)) else ((F_X7_countShaken t_radar_gapCount t_radar_gaps t_radar_settings x1 x2).bind fun r_4 => (some r_4)))
set_option maxHeartbeats 4000000 in
set_option maxRecDepth 100000 in
theorem c_X10_shaken (l : Launch) (D : va_G) (K : Nat → ClassId) (g_t : Nat → Nat) (g_t_radar : Nat → Nat) (g_t_draft : Nat → Nat) (g_t_text : Nat → Nat) (g_t_reader : Nat → Nat) (g_t_history : Nat → Nat) (g_t_echoes : Nat → Nat) (g_t_tracks : Nat → Nat) (g_t_dwelling : Nat → Nat) (g_t_chooser : Nat → Nat) (g_t_adviser : Nat → Nat) (t_radar_gapCount : Int32) (t_radar_targetCount : Int32) (t_radar_lookCount : Int32) (t_radar_time : Int32) (t_radar_gone : Int32) (t_radar_gaps : Nat → Int32) (t_radar_settings : Nat → Int32) (x1 : Int32) (x2 : Int32) (res : Int32) (hF : F_X10_shaken t_radar_gapCount t_radar_gaps t_radar_settings x1 x2 = some res) :
    Mi_ l yX10_shaken wsX10_shaken rmX10_shaken D K [.ref (g_t 0), .int x1, .int x2] (w_X10_shaken K g_t g_t_radar g_t_draft g_t_text g_t_reader g_t_history g_t_echoes g_t_tracks g_t_dwelling g_t_chooser g_t_adviser t_radar_gapCount t_radar_targetCount t_radar_lookCount t_radar_time t_radar_gone t_radar_gaps t_radar_settings) (w_X10_shaken K g_t g_t_radar g_t_draft g_t_text g_t_reader g_t_history g_t_echoes g_t_tracks g_t_dwelling g_t_chooser g_t_adviser t_radar_gapCount t_radar_targetCount t_radar_lookCount t_radar_time t_radar_gone t_radar_gaps t_radar_settings) (res) := by
  refine en_i (cc := cX10_shaken) (maxL := 3) (own := RX10) (by decide) rfl rfl (Nat.le_of_ble_eq_true rfl) ?_
  intro p e s m args below meth c A Q H locs ls C0 hP hD hS hl HR
  obtain ⟨⟨hx, hb, hml, hown, hts⟩, hK, -⟩ := id C0
  have hl : lv_has ls 3 [(0, .ref (g_t 0)), (1, .int x1), (2, .int x2)] := hl
  unfold F_X10_shaken at hF
  refine lv_iload_n hx hb dX10_shaken_0 rfl (lv_at hl 1 rfl) ?_
  refine lv_iconst (v := 0) hx hb dX10_shaken_1 (by decide) ?_
  refine lv_iconst (v := 3) hx hb dX10_shaken_2 (by decide) ?_
  obtain ⟨r_1, hc_2, hF⟩ := bn_some hF
  refine xc_i (wn := (w_X10_shaken K g_t g_t_radar g_t_draft g_t_text g_t_reader g_t_history g_t_echoes g_t_tracks g_t_dwelling g_t_chooser g_t_adviser t_radar_gapCount t_radar_targetCount t_radar_lookCount t_radar_time t_radar_gone t_radar_gaps t_radar_settings)) hP hD hS C0.2.2.1 [] [0, 1, 2, 3] [0, 1, 2, 3] rfl rfl (by decide) (by decide) rfl (by decide) (va_runS (As := [.int x1, .int (0 : Int32), .int (3 : Int32)]) (rest := []) C0.1 (c_X10_isWithin l D K x1 (0 : Int32) (3 : Int32) r_1 hc_2 H.size) (va_cwS 3 hts gX10_shaken_X10_isWithin rfl rfl rfl (by decide +kernel) ⟨Nat.le_of_ble_eq_true rfl, Nat.le_of_ble_eq_true rfl⟩) (xp_S C0.2 hP hD hS [] rfl (by decide)) rfl rfl hl.1 rfl (lv_room (Nat.le_of_ble_eq_true rfl)) dX10_shaken_3 ⟨Nat.le_of_ble_eq_true rfl, Nat.le_of_ble_eq_true rfl⟩) (fun H locs hP hD hS => ?_)
  refine lv_if_eq (tgt := 21) hx hb dX10_shaken_6 (by decide) (fun c_3 => ?_) (fun c_3 => ?_)
  · have hF := it_pos c_3 hF
    refine lv_iconst (v := (-1)) hx hb dX10_shaken_21 (by decide) ?_
    obtain rfl := Option.some.inj hF
    exact HR 22 H locs ls dX10_shaken_22 hP hD hS
  · have hF := it_neg c_3 hF
    refine lv_aload_n hx hb dX10_shaken_9 rfl (lv_at hl 0 rfl) ?_
    refine va_get (D := D) (ci := 9) (v := .ref (g_t_radar 0)) (C := RX10) (T := TX10) (N := 14) hx hb hts iw_X10_shaken_X10 hown hK hP 0 rfl rfl 0 (by decide) (hts _ fl_X10_shaken_10) (fun _ h9 => h9) rfl dX10_shaken_10 ?_
    refine lv_iload_n hx hb dX10_shaken_13 rfl (lv_at hl 1 rfl) ?_
    refine lv_iload_n hx hb dX10_shaken_14 rfl (lv_at hl 2 rfl) ?_
    obtain ⟨r_4, hc_5, hF⟩ := bn_some hF
    refine xc_i (wn := (w_X10_shaken K g_t g_t_radar g_t_draft g_t_text g_t_reader g_t_history g_t_echoes g_t_tracks g_t_dwelling g_t_chooser g_t_adviser t_radar_gapCount t_radar_targetCount t_radar_lookCount t_radar_time t_radar_gone t_radar_gaps t_radar_settings)) hP hD hS C0.2.2.1 [1, 2, 3] [0] [0, 1, 2, 3] rfl rfl (by decide) (by decide) rfl (by decide) (va_runS (As := [.ref (g_t_radar 0), .int x1, .int x2]) (rest := []) C0.1 (c_X7_countShaken l D K g_t_radar t_radar_gapCount t_radar_targetCount t_radar_lookCount t_radar_time t_radar_gone t_radar_gaps t_radar_settings x1 x2 r_4 hc_5 H.size) (va_cwS 3 hts gX10_shaken_X7_countShaken rfl rfl rfl (by decide +kernel) ⟨Nat.le_of_ble_eq_true rfl, Nat.le_of_ble_eq_true rfl⟩) (xp_S C0.2 hP hD hS [1, 2, 3] rfl (by decide)) rfl rfl hl.1 rfl (lv_room (Nat.le_of_ble_eq_true rfl)) dX10_shaken_15 ⟨Nat.le_of_ble_eq_true rfl, Nat.le_of_ble_eq_true rfl⟩) (fun H locs hP hD hS => ?_)
    refine lv_goto (tgt := 22) hx hb dX10_shaken_18 (by decide) ?_
    obtain rfl := Option.some.inj hF
    exact HR 22 H locs ls dX10_shaken_22 hP hD hS

/-! StaggerRadar.Tracks.numberAt(LStaggerRadar$Radar;II)I -/
abbrev rmX9_numberAt : Room := { frames := 0, cells := 0, slots := 0, locals := 0 }
theorem fl_X9_numberAt_62 : Cond.fieldLink RX9 62 "StaggerRadar$Radar" "lookNumbers" "[I" ∈ wsX9_numberAt := by decide +kernel
theorem iw_X9_numberAt_X5 : ∀ w ∈ u_ws RX5 TX5 13, w ∈ wsX9_numberAt := by decide +kernel
abbrev w_X9_numberAt (K : Nat → ClassId) (g_p0 : Nat → Nat) (p0_gapCount : Int32) (p0_targetCount : Int32) (p0_lookCount : Int32) (p0_time : Int32) (p0_gone : Int32) (p0_lookNumbers : Nat → Int32) : va_W := [((g_p0 0), .inr (5, [.ref (g_p0 1), .ref (g_p0 2), .ref (g_p0 3), .ref (g_p0 4), .ref (g_p0 5), .ref (g_p0 6), .ref (g_p0 7), .ref (g_p0 8), .int p0_gapCount, .int p0_targetCount, .int p0_lookCount, .int p0_time, .int p0_gone])), ((g_p0 8), .inl (K 0, 48, .inl p0_lookNumbers))]
def F_X9_numberAt (p0_lookNumbers : Nat → Int32) (x1 : Int32) (x2 : Int32) : Option (Int32) :=
  gd_ (in_b ((x1 * (12 : Int32)) + x2) 48) (some (p0_lookNumbers ((x1 * (12 : Int32)) + x2).toNatClampNeg))
set_option maxHeartbeats 4000000 in
set_option maxRecDepth 100000 in
theorem c_X9_numberAt (l : Launch) (D : va_G) (K : Nat → ClassId) (g_p0 : Nat → Nat) (p0_gapCount : Int32) (p0_targetCount : Int32) (p0_lookCount : Int32) (p0_time : Int32) (p0_gone : Int32) (p0_lookNumbers : Nat → Int32) (x1 : Int32) (x2 : Int32) (res : Int32) (hF : F_X9_numberAt p0_lookNumbers x1 x2 = some res) :
    Mi_ l yX9_numberAt wsX9_numberAt rmX9_numberAt D K [.ref (g_p0 0), .int x1, .int x2] (w_X9_numberAt K g_p0 p0_gapCount p0_targetCount p0_lookCount p0_time p0_gone p0_lookNumbers) (w_X9_numberAt K g_p0 p0_gapCount p0_targetCount p0_lookCount p0_time p0_gone p0_lookNumbers) (res) := by
  refine en_i (cc := cX9_numberAt) (maxL := 3) (own := RX9) (by decide) rfl rfl (Nat.le_of_ble_eq_true rfl) ?_
  intro p e s m args below meth c A Q H locs ls C0 hP hD hS hl HR
  obtain ⟨⟨hx, hb, hml, hown, hts⟩, hK, -⟩ := id C0
  have hl : lv_has ls 3 [(0, .ref (g_p0 0)), (1, .int x1), (2, .int x2)] := hl
  unfold F_X9_numberAt at hF
  refine lv_aload_n hx hb dX9_numberAt_0 rfl (lv_at hl 0 rfl) ?_
  refine va_get (D := D) (ci := 5) (v := .ref (g_p0 8)) (C := RX5) (T := TX5) (N := 13) hx hb hts iw_X9_numberAt_X5 hown hK hP 0 rfl rfl 7 (by decide) (hts _ fl_X9_numberAt_62) (fun _ h9 => h9) rfl dX9_numberAt_1 ?_
  refine lv_iload_n hx hb dX9_numberAt_4 rfl (lv_at hl 1 rfl) ?_
  refine lv_bipush (v := 12) hx hb dX9_numberAt_5 (by decide) ?_
  refine lv_imul hx hb dX9_numberAt_7 ?_
  refine lv_iload_n hx hb dX9_numberAt_8 rfl (lv_at hl 2 rfl) ?_
  refine lv_iadd hx hb dX9_numberAt_9 ?_
  obtain ⟨hg_1, hF⟩ := gd_some hF
  refine xl_i (f := p0_lookNumbers) hx hb hK hP 1 0 rfl rfl rfl (in_v hg_1) dX9_numberAt_10 ?_
  obtain rfl := Option.some.inj hF
  exact HR 11 H locs ls dX9_numberAt_11 hP hD hS

/-! StaggerRadar.Tracks.alignedLasts(LStaggerRadar$Radar;II)I -/
abbrev rmX9_alignedLasts : Room := { frames := 1, cells := 0, slots := 0, locals := 22 }
theorem fl_X9_alignedLasts_15 : Cond.fieldLink RX9 15 "StaggerRadar$Tracks" "path" "[I" ∈ wsX9_alignedLasts := by decide +kernel
theorem fl_X9_alignedLasts_29 : Cond.fieldLink RX9 29 "StaggerRadar$Radar" "lookCount" "I" ∈ wsX9_alignedLasts := by decide +kernel
theorem fl_X9_alignedLasts_34 : Cond.fieldLink RX9 34 "StaggerRadar$Radar" "lookSizes" "[I" ∈ wsX9_alignedLasts := by decide +kernel
theorem fl_X9_alignedLasts_59 : Cond.fieldLink RX9 59 "StaggerRadar$Radar" "lookTimes" "[I" ∈ wsX9_alignedLasts := by decide +kernel
theorem iw_X9_alignedLasts_X5 : ∀ w ∈ u_ws RX5 TX5 13, w ∈ wsX9_alignedLasts := by decide +kernel
theorem iw_X9_alignedLasts_X9 : ∀ w ∈ u_ws RX9 TX9 3, w ∈ wsX9_alignedLasts := by decide +kernel
abbrev w_X9_alignedLasts (K : Nat → ClassId) (g_t : Nat → Nat) (g_p1 : Nat → Nat) (t_passed : Int32) (t_path : Nat → Int32) (p1_gapCount : Int32) (p1_targetCount : Int32) (p1_lookCount : Int32) (p1_time : Int32) (p1_gone : Int32) (p1_lookTimes : Nat → Int32) (p1_lookSizes : Nat → Int32) (p1_lookNumbers : Nat → Int32) : va_W := [((g_t 0), .inr (8, [.ref (g_t 1), .ref (g_t 2), .int t_passed])), ((g_t 2), .inl (K 0, 4, .inl t_path)), ((g_p1 0), .inr (5, [.ref (g_p1 1), .ref (g_p1 2), .ref (g_p1 3), .ref (g_p1 4), .ref (g_p1 5), .ref (g_p1 6), .ref (g_p1 7), .ref (g_p1 8), .int p1_gapCount, .int p1_targetCount, .int p1_lookCount, .int p1_time, .int p1_gone])), ((g_p1 6), .inl (K 0, 4, .inl p1_lookTimes)), ((g_p1 7), .inl (K 0, 4, .inl p1_lookSizes)), ((g_p1 8), .inl (K 0, 48, .inl p1_lookNumbers))]
def L_X9_alignedLasts_75 (t_path : Nat → Int32) (p1_lookCount : Int32) (p1_lookTimes : Nat → Int32) (p1_lookSizes : Nat → Int32) (p1_lookNumbers : Nat → Int32) : Nat → Int32 → Int32 → Int64 → Int64 → Int64 → Int32 → Int32 → Option (Int32)
  | 0, _, _, _, _, _, _, _ => none
  | n_ + 1, x4, x5, x6, x8, x10, x12, x13 =>
    gd_ (in_b x4 4) (if (p1_lookSizes (x4).toNatClampNeg) ≤ x13 then (some x12) else ((F_X9_numberAt p1_lookNumbers x4 x13).bind fun r_3 => (if (0 : Int32) < (lg_cmp (x10 - (((r_3 - x5)).toInt64 * x8)) x6) then (L_X9_alignedLasts_75 t_path p1_lookCount p1_lookTimes p1_lookSizes p1_lookNumbers n_ x4 x5 x6 x8 x10 x12 (x13 + (1 : Int32))) else (if (0 : Int32) < (lg_cmp (-(x10 - (((r_3 - x5)).toInt64 * x8))) x6) then (L_X9_alignedLasts_75 t_path p1_lookCount p1_lookTimes p1_lookSizes p1_lookNumbers n_ x4 x5 x6 x8 x10 x12 (x13 + (1 : Int32))) else (L_X9_alignedLasts_75 t_path p1_lookCount p1_lookTimes p1_lookSizes p1_lookNumbers n_ x4 x5 x6 x8 x10 (x12 ||| ((1 : Int32) <<< (x13 &&& 31))) (x13 + (1 : Int32)))))))
set_option maxHeartbeats 4000000 in
set_option maxRecDepth 100000 in
theorem w_X9_alignedLasts_75 {p : Program} {l : Launch} {e : Env} {s : State} {m : MethodId} {args : Array Value} {below : List Frame} {meth : Method} {c : Code} {D : va_G} {K : Nat → ClassId} {A : Nat → Prop} {Q : State → Prop} (C0 : cx_ p s m args c cX9_alignedLasts 16 RX9 wsX9_alignedLasts D K A) {g_t : Nat → Nat} {g_p1 : Nat → Nat} {t_passed : Int32} {t_path : Nat → Int32} {p1_gapCount : Int32} {p1_targetCount : Int32} {p1_lookCount : Int32} {p1_time : Int32} {p1_gone : Int32} {p1_lookTimes : Nat → Int32} {p1_lookSizes : Nat → Int32} {p1_lookNumbers : Nat → Int32} {res : Int32} (HR : ∀ (pc : Nat) (H : Heap) (locs : List Loc) (ls : Array Slot), decode cX9_alignedLasts pc = .ok (.ireturn, 1) → va_P D vwCl (w_X9_alignedLasts K g_t g_p1 t_passed t_path p1_gapCount p1_targetCount p1_lookCount p1_time p1_gone p1_lookTimes p1_lookSizes p1_lookNumbers) H → va_D A (w_X9_alignedLasts K g_t g_p1 t_passed t_path p1_gapCount p1_targetCount p1_lookCount p1_time p1_gone p1_lookTimes p1_lookSizes p1_lookNumbers) → va_S A s.heap H locs → W p l e rmX9_alignedLasts s m args below meth c H locs 0 0 Q (F0 m pc ls [.int res]))  :
    ∀ (n_ : Nat) (x4 : Int32) (x5 : Int32) (x6 : Int64) (x8 : Int64) (x10 : Int64) (x12 : Int32) (x13 : Int32) (H : Heap) (locs : List Loc) (ls : Array Slot), va_P D vwCl (w_X9_alignedLasts K g_t g_p1 t_passed t_path p1_gapCount p1_targetCount p1_lookCount p1_time p1_gone p1_lookTimes p1_lookSizes p1_lookNumbers) H → va_D A (w_X9_alignedLasts K g_t g_p1 t_passed t_path p1_gapCount p1_targetCount p1_lookCount p1_time p1_gone p1_lookTimes p1_lookSizes p1_lookNumbers) → va_S A s.heap H locs → lv_has ls 16 [(1, .ref (g_p1 0)), (4, .int x4), (5, .int x5), (6, .long x6), (8, .long x8), (10, .long x10), (12, .int x12), (13, .int x13)] → L_X9_alignedLasts_75 t_path p1_lookCount p1_lookTimes p1_lookSizes p1_lookNumbers n_ x4 x5 x6 x8 x10 x12 x13 = some res → W p l e rmX9_alignedLasts s m args below meth c H locs 0 0 Q (F0 m 75 ls []) := by
  obtain ⟨⟨hx, hb, hml, hown, hts⟩, hK, -⟩ := id C0
  intro n_
  induction n_ with
  | zero =>
    intro x4 x5 x6 x8 x10 x12 x13 H locs ls hP hD hS hl hF
    exact no_s (show (none : Option (Int32)) = some res from hF)
  | succ n_ ih =>
    intro x4 x5 x6 x8 x10 x12 x13 H locs ls hP hD hS hl hF
    rw [L_X9_alignedLasts_75] at hF
    refine lv_iload hx hb dX9_alignedLasts_75 (lv_at hl 7 rfl) ?_
    refine lv_aload_n hx hb dX9_alignedLasts_77 rfl (lv_at hl 0 rfl) ?_
    refine va_get (D := D) (ci := 5) (v := .ref (g_p1 7)) (C := RX5) (T := TX5) (N := 13) hx hb hts iw_X9_alignedLasts_X5 hown hK hP 2 rfl rfl 6 (by decide) (hts _ fl_X9_alignedLasts_34) (fun _ h9 => h9) rfl dX9_alignedLasts_78 ?_
    refine lv_iload hx hb dX9_alignedLasts_81 (lv_at hl 1 rfl) ?_
    obtain ⟨hg_1, hF⟩ := gd_some hF
    refine xl_i (f := p1_lookSizes) hx hb hK hP 4 0 rfl rfl rfl (in_v hg_1) dX9_alignedLasts_83 ?_
    refine lv_icmp_ge (tgt := 139) hx hb dX9_alignedLasts_84 (by decide) (fun c_2 => ?_) (fun c_2 => ?_)
    · have hF := it_pos c_2 hF
      refine lv_iload hx hb dX9_alignedLasts_139 (lv_at hl 6 rfl) ?_
      obtain rfl := Option.some.inj hF
      exact HR 141 H locs ls dX9_alignedLasts_141 hP hD hS
    · have hF := it_neg c_2 hF
      refine lv_lload hx hb dX9_alignedLasts_87 (lv_at hl 5 rfl) ?_
      refine lv_aload_n hx hb dX9_alignedLasts_89 rfl (lv_at hl 0 rfl) ?_
      refine lv_iload hx hb dX9_alignedLasts_90 (lv_at hl 1 rfl) ?_
      refine lv_iload hx hb dX9_alignedLasts_92 (lv_at hl 7 rfl) ?_
      obtain ⟨r_3, hc_4, hF⟩ := bn_some hF
      refine xc_i (wn := (w_X9_alignedLasts K g_t g_p1 t_passed t_path p1_gapCount p1_targetCount p1_lookCount p1_time p1_gone p1_lookTimes p1_lookSizes p1_lookNumbers)) hP hD hS C0.2.2.1 [2, 5] [0, 1, 3, 4] [0, 1, 4, 2, 3, 5] rfl rfl (by decide) (by decide) rfl (by decide) (va_runS (As := [.ref (g_p1 0), .int x4, .int x13]) (rest := [.long x10]) C0.1 (c_X9_numberAt l D K g_p1 p1_gapCount p1_targetCount p1_lookCount p1_time p1_gone p1_lookNumbers x4 x13 r_3 hc_4 H.size) (va_cwS 3 hts gX9_alignedLasts_X9_numberAt rfl rfl rfl (by decide +kernel) ⟨Nat.le_of_ble_eq_true rfl, Nat.le_of_ble_eq_true rfl⟩) (xp_S C0.2 hP hD hS [2, 5] rfl (by decide)) rfl rfl hl.1 rfl (lv_room (Nat.le_of_ble_eq_true rfl)) dX9_alignedLasts_94 ⟨Nat.le_of_ble_eq_true rfl, Nat.le_of_ble_eq_true rfl⟩) (fun H locs hP hD hS => ?_)
      refine lv_iload hx hb dX9_alignedLasts_97 (lv_at hl 2 rfl) ?_
      refine lv_isub hx hb dX9_alignedLasts_99 ?_
      refine lv_i2l hx hb dX9_alignedLasts_100 rfl ?_
      refine lv_lload hx hb dX9_alignedLasts_101 (lv_at hl 4 rfl) ?_
      refine lv_lmul hx hb dX9_alignedLasts_103 ?_
      refine lv_lsub hx hb dX9_alignedLasts_104 ?_
      refine lv_lstore (lv' := [(14, .long (x10 - (((r_3 - x5)).toInt64 * x8))), (1, .ref (g_p1 0)), (4, .int x4), (5, .int x5), (6, .long x6), (8, .long x8), (10, .long x10), (12, .int x12), (13, .int x13)]) hx hb dX9_alignedLasts_105 hl (by decide) rfl (fun ls hl => ?_)
      refine lv_lload hx hb dX9_alignedLasts_107 (lv_at hl 0 rfl) ?_
      refine lv_lload hx hb dX9_alignedLasts_109 (lv_at hl 4 rfl) ?_
      refine W.lcmp hx hb dX9_alignedLasts_111 ?_
      refine lv_if_gt (tgt := 133) hx hb dX9_alignedLasts_112 (by decide) (fun c_5 => ?_) (fun c_5 => ?_)
      · have hF := it_pos c_5 hF
        refine lv_iinc (v := (x13 + (1 : Int32))) (lv' := [(13, .int (x13 + (1 : Int32))), (14, .long (x10 - (((r_3 - x5)).toInt64 * x8))), (1, .ref (g_p1 0)), (4, .int x4), (5, .int x5), (6, .long x6), (8, .long x8), (10, .long x10), (12, .int x12)]) hx hb dX9_alignedLasts_133 hl (k := 8) rfl (congrArg (fun z => x13 + z) (by decide)) (by decide) rfl (fun ls hl => ?_)
        refine lv_goto (tgt := 75) hx hb dX9_alignedLasts_136 (by decide) ?_
        exact ih x4 x5 x6 x8 x10 x12 (x13 + (1 : Int32)) H locs ls hP hD hS (lv_sub hl [2, 3, 4, 5, 6, 7, 8, 0] rfl) hF
      · have hF := it_neg c_5 hF
        refine lv_lload hx hb dX9_alignedLasts_115 (lv_at hl 0 rfl) ?_
        refine lv_lneg hx hb dX9_alignedLasts_117 ?_
        refine lv_lload hx hb dX9_alignedLasts_118 (lv_at hl 4 rfl) ?_
        refine W.lcmp hx hb dX9_alignedLasts_120 ?_
        refine lv_if_gt (tgt := 133) hx hb dX9_alignedLasts_121 (by decide) (fun c_6 => ?_) (fun c_6 => ?_)
        · have hF := it_pos c_6 hF
          refine lv_iinc (v := (x13 + (1 : Int32))) (lv' := [(13, .int (x13 + (1 : Int32))), (14, .long (x10 - (((r_3 - x5)).toInt64 * x8))), (1, .ref (g_p1 0)), (4, .int x4), (5, .int x5), (6, .long x6), (8, .long x8), (10, .long x10), (12, .int x12)]) hx hb dX9_alignedLasts_133 hl (k := 8) rfl (congrArg (fun z => x13 + z) (by decide)) (by decide) rfl (fun ls hl => ?_)
          refine lv_goto (tgt := 75) hx hb dX9_alignedLasts_136 (by decide) ?_
          exact ih x4 x5 x6 x8 x10 x12 (x13 + (1 : Int32)) H locs ls hP hD hS (lv_sub hl [2, 3, 4, 5, 6, 7, 8, 0] rfl) hF
        · have hF := it_neg c_6 hF
          refine lv_iload hx hb dX9_alignedLasts_124 (lv_at hl 7 rfl) ?_
          refine lv_iconst (v := 1) hx hb dX9_alignedLasts_126 (by decide) ?_
          refine lv_iload hx hb dX9_alignedLasts_127 (lv_at hl 8 rfl) ?_
          refine lv_ishl hx hb dX9_alignedLasts_129 ?_
          refine lv_ior hx hb dX9_alignedLasts_130 ?_
          refine lv_istore (lv' := [(12, .int (x12 ||| ((1 : Int32) <<< (x13 &&& 31)))), (14, .long (x10 - (((r_3 - x5)).toInt64 * x8))), (1, .ref (g_p1 0)), (4, .int x4), (5, .int x5), (6, .long x6), (8, .long x8), (10, .long x10), (13, .int x13)]) hx hb dX9_alignedLasts_131 hl (by decide) rfl (fun ls hl => ?_)
          refine lv_iinc (v := (x13 + (1 : Int32))) (lv' := [(13, .int (x13 + (1 : Int32))), (12, .int (x12 ||| ((1 : Int32) <<< (x13 &&& 31)))), (14, .long (x10 - (((r_3 - x5)).toInt64 * x8))), (1, .ref (g_p1 0)), (4, .int x4), (5, .int x5), (6, .long x6), (8, .long x8), (10, .long x10)]) hx hb dX9_alignedLasts_133 hl (k := 8) rfl (congrArg (fun z => x13 + z) (by decide)) (by decide) rfl (fun ls hl => ?_)
          refine lv_goto (tgt := 75) hx hb dX9_alignedLasts_136 (by decide) ?_
          exact ih x4 x5 x6 x8 x10 (x12 ||| ((1 : Int32) <<< (x13 &&& 31))) (x13 + (1 : Int32)) H locs ls hP hD hS (lv_sub hl [3, 4, 5, 6, 7, 8, 1, 0] rfl) hF
def F_X9_alignedLasts (t_path : Nat → Int32) (p1_lookCount : Int32) (p1_lookTimes : Nat → Int32) (p1_lookSizes : Nat → Int32) (p1_lookNumbers : Nat → Int32) (x2 : Int32) (x3 : Int32) : Option (Int32) :=
  (F_X9_numberAt p1_lookNumbers (0 : Int32) (t_path 0)).bind fun r_1 => (gd_ (in_b (p1_lookCount - (1 : Int32)) 4) (gd_ (in_b x2 4) ((F_X9_numberAt p1_lookNumbers x2 x3).bind fun r_5 => (L_X9_alignedLasts_75 t_path p1_lookCount p1_lookTimes p1_lookSizes p1_lookNumbers fu_ (p1_lookCount - (1 : Int32)) r_1 ((((p1_lookTimes (p1_lookCount - (1 : Int32)).toNatClampNeg) - (p1_lookTimes 0))).toInt64) ((((p1_lookTimes (x2).toNatClampNeg) - (p1_lookTimes 0))).toInt64) (((r_5 - r_1)).toInt64 * (((p1_lookTimes (p1_lookCount - (1 : Int32)).toNatClampNeg) - (p1_lookTimes 0))).toInt64) (0 : Int32) (0 : Int32)))))
set_option maxHeartbeats 4000000 in
set_option maxRecDepth 100000 in
theorem c_X9_alignedLasts (l : Launch) (D : va_G) (K : Nat → ClassId) (g_t : Nat → Nat) (g_p1 : Nat → Nat) (t_passed : Int32) (t_path : Nat → Int32) (p1_gapCount : Int32) (p1_targetCount : Int32) (p1_lookCount : Int32) (p1_time : Int32) (p1_gone : Int32) (p1_lookTimes : Nat → Int32) (p1_lookSizes : Nat → Int32) (p1_lookNumbers : Nat → Int32) (x2 : Int32) (x3 : Int32) (res : Int32) (hF : F_X9_alignedLasts t_path p1_lookCount p1_lookTimes p1_lookSizes p1_lookNumbers x2 x3 = some res) :
    Mi_ l yX9_alignedLasts wsX9_alignedLasts rmX9_alignedLasts D K [.ref (g_t 0), .ref (g_p1 0), .int x2, .int x3] (w_X9_alignedLasts K g_t g_p1 t_passed t_path p1_gapCount p1_targetCount p1_lookCount p1_time p1_gone p1_lookTimes p1_lookSizes p1_lookNumbers) (w_X9_alignedLasts K g_t g_p1 t_passed t_path p1_gapCount p1_targetCount p1_lookCount p1_time p1_gone p1_lookTimes p1_lookSizes p1_lookNumbers) (res) := by
  refine en_i (cc := cX9_alignedLasts) (maxL := 16) (own := RX9) (by decide) rfl rfl (Nat.le_of_ble_eq_true rfl) ?_
  intro p e s m args below meth c A Q H locs ls C0 hP hD hS hl HR
  obtain ⟨⟨hx, hb, hml, hown, hts⟩, hK, -⟩ := id C0
  have hl : lv_has ls 16 [(0, .ref (g_t 0)), (1, .ref (g_p1 0)), (2, .int x2), (3, .int x3)] := hl
  unfold F_X9_alignedLasts at hF
  refine lv_aload_n hx hb dX9_alignedLasts_0 rfl (lv_at hl 1 rfl) ?_
  refine va_get (D := D) (ci := 5) (v := .int p1_lookCount) (C := RX5) (T := TX5) (N := 13) hx hb hts iw_X9_alignedLasts_X5 hown hK hP 2 rfl rfl 10 (by decide) (hts _ fl_X9_alignedLasts_29) (fun _ h9 => h9) rfl dX9_alignedLasts_1 ?_
  refine lv_iconst (v := 1) hx hb dX9_alignedLasts_4 (by decide) ?_
  refine lv_isub hx hb dX9_alignedLasts_5 ?_
  refine lv_istore (lv' := [(4, .int (p1_lookCount - (1 : Int32))), (0, .ref (g_t 0)), (1, .ref (g_p1 0)), (2, .int x2), (3, .int x3)]) hx hb dX9_alignedLasts_6 hl (by decide) rfl (fun ls hl => ?_)
  refine lv_aload_n hx hb dX9_alignedLasts_8 rfl (lv_at hl 2 rfl) ?_
  refine lv_iconst (v := 0) hx hb dX9_alignedLasts_9 (by decide) ?_
  refine lv_aload_n hx hb dX9_alignedLasts_10 rfl (lv_at hl 1 rfl) ?_
  refine va_get (D := D) (ci := 8) (v := .ref (g_t 2)) (C := RX9) (T := TX9) (N := 3) hx hb hts iw_X9_alignedLasts_X9 hown hK hP 0 rfl rfl 1 (by decide) (hts _ fl_X9_alignedLasts_15) (fun _ h9 => h9) rfl dX9_alignedLasts_11 ?_
  refine lv_iconst (v := 0) hx hb dX9_alignedLasts_14 (by decide) ?_
  refine xl_i (f := t_path) hx hb hK hP 1 0 rfl rfl (k := 0) (by decide) (in_v (by decide)) dX9_alignedLasts_15 ?_
  obtain ⟨r_1, hc_2, hF⟩ := bn_some hF
  refine xc_i (wn := (w_X9_alignedLasts K g_t g_p1 t_passed t_path p1_gapCount p1_targetCount p1_lookCount p1_time p1_gone p1_lookTimes p1_lookSizes p1_lookNumbers)) hP hD hS C0.2.2.1 [2, 5] [0, 1, 3, 4] [0, 1, 4, 2, 3, 5] rfl rfl (by decide) (by decide) rfl (by decide) (va_runS (As := [.ref (g_p1 0), .int (0 : Int32), .int (t_path 0)]) (rest := []) C0.1 (c_X9_numberAt l D K g_p1 p1_gapCount p1_targetCount p1_lookCount p1_time p1_gone p1_lookNumbers (0 : Int32) (t_path 0) r_1 hc_2 H.size) (va_cwS 3 hts gX9_alignedLasts_X9_numberAt rfl rfl rfl (by decide +kernel) ⟨Nat.le_of_ble_eq_true rfl, Nat.le_of_ble_eq_true rfl⟩) (xp_S C0.2 hP hD hS [2, 5] rfl (by decide)) rfl rfl hl.1 rfl (lv_room (Nat.le_of_ble_eq_true rfl)) dX9_alignedLasts_16 ⟨Nat.le_of_ble_eq_true rfl, Nat.le_of_ble_eq_true rfl⟩) (fun H locs hP hD hS => ?_)
  refine lv_istore (lv' := [(5, .int r_1), (4, .int (p1_lookCount - (1 : Int32))), (0, .ref (g_t 0)), (1, .ref (g_p1 0)), (2, .int x2), (3, .int x3)]) hx hb dX9_alignedLasts_19 hl (by decide) rfl (fun ls hl => ?_)
  refine lv_aload_n hx hb dX9_alignedLasts_21 rfl (lv_at hl 3 rfl) ?_
  refine va_get (D := D) (ci := 5) (v := .ref (g_p1 6)) (C := RX5) (T := TX5) (N := 13) hx hb hts iw_X9_alignedLasts_X5 hown hK hP 2 rfl rfl 5 (by decide) (hts _ fl_X9_alignedLasts_59) (fun _ h9 => h9) rfl dX9_alignedLasts_22 ?_
  refine lv_iload hx hb dX9_alignedLasts_25 (lv_at hl 1 rfl) ?_
  obtain ⟨hg_3, hF⟩ := gd_some hF
  refine xl_i (f := p1_lookTimes) hx hb hK hP 3 0 rfl rfl rfl (in_v hg_3) dX9_alignedLasts_27 ?_
  refine lv_aload_n hx hb dX9_alignedLasts_28 rfl (lv_at hl 3 rfl) ?_
  refine va_get (D := D) (ci := 5) (v := .ref (g_p1 6)) (C := RX5) (T := TX5) (N := 13) hx hb hts iw_X9_alignedLasts_X5 hown hK hP 2 rfl rfl 5 (by decide) (hts _ fl_X9_alignedLasts_59) (fun _ h9 => h9) rfl dX9_alignedLasts_29 ?_
  refine lv_iconst (v := 0) hx hb dX9_alignedLasts_32 (by decide) ?_
  refine xl_i (f := p1_lookTimes) hx hb hK hP 3 0 rfl rfl (k := 0) (by decide) (in_v (by decide)) dX9_alignedLasts_33 ?_
  refine lv_isub hx hb dX9_alignedLasts_34 ?_
  refine lv_i2l hx hb dX9_alignedLasts_35 rfl ?_
  refine lv_lstore (lv' := [(6, .long ((((p1_lookTimes (p1_lookCount - (1 : Int32)).toNatClampNeg) - (p1_lookTimes 0))).toInt64)), (5, .int r_1), (4, .int (p1_lookCount - (1 : Int32))), (0, .ref (g_t 0)), (1, .ref (g_p1 0)), (2, .int x2), (3, .int x3)]) hx hb dX9_alignedLasts_36 hl (by decide) rfl (fun ls hl => ?_)
  refine lv_aload_n hx hb dX9_alignedLasts_38 rfl (lv_at hl 4 rfl) ?_
  refine va_get (D := D) (ci := 5) (v := .ref (g_p1 6)) (C := RX5) (T := TX5) (N := 13) hx hb hts iw_X9_alignedLasts_X5 hown hK hP 2 rfl rfl 5 (by decide) (hts _ fl_X9_alignedLasts_59) (fun _ h9 => h9) rfl dX9_alignedLasts_39 ?_
  refine lv_iload_n hx hb dX9_alignedLasts_42 rfl (lv_at hl 5 rfl) ?_
  obtain ⟨hg_4, hF⟩ := gd_some hF
  refine xl_i (f := p1_lookTimes) hx hb hK hP 3 0 rfl rfl rfl (in_v hg_4) dX9_alignedLasts_43 ?_
  refine lv_aload_n hx hb dX9_alignedLasts_44 rfl (lv_at hl 4 rfl) ?_
  refine va_get (D := D) (ci := 5) (v := .ref (g_p1 6)) (C := RX5) (T := TX5) (N := 13) hx hb hts iw_X9_alignedLasts_X5 hown hK hP 2 rfl rfl 5 (by decide) (hts _ fl_X9_alignedLasts_59) (fun _ h9 => h9) rfl dX9_alignedLasts_45 ?_
  refine lv_iconst (v := 0) hx hb dX9_alignedLasts_48 (by decide) ?_
  refine xl_i (f := p1_lookTimes) hx hb hK hP 3 0 rfl rfl (k := 0) (by decide) (in_v (by decide)) dX9_alignedLasts_49 ?_
  refine lv_isub hx hb dX9_alignedLasts_50 ?_
  refine lv_i2l hx hb dX9_alignedLasts_51 rfl ?_
  refine lv_lstore (lv' := [(8, .long ((((p1_lookTimes (x2).toNatClampNeg) - (p1_lookTimes 0))).toInt64)), (6, .long ((((p1_lookTimes (p1_lookCount - (1 : Int32)).toNatClampNeg) - (p1_lookTimes 0))).toInt64)), (5, .int r_1), (4, .int (p1_lookCount - (1 : Int32))), (0, .ref (g_t 0)), (1, .ref (g_p1 0)), (2, .int x2), (3, .int x3)]) hx hb dX9_alignedLasts_52 hl (by decide) rfl (fun ls hl => ?_)
  refine lv_aload_n hx hb dX9_alignedLasts_54 rfl (lv_at hl 5 rfl) ?_
  refine lv_iload_n hx hb dX9_alignedLasts_55 rfl (lv_at hl 6 rfl) ?_
  refine lv_iload_n hx hb dX9_alignedLasts_56 rfl (lv_at hl 7 rfl) ?_
  obtain ⟨r_5, hc_6, hF⟩ := bn_some hF
  refine xc_i (wn := (w_X9_alignedLasts K g_t g_p1 t_passed t_path p1_gapCount p1_targetCount p1_lookCount p1_time p1_gone p1_lookTimes p1_lookSizes p1_lookNumbers)) hP hD hS C0.2.2.1 [2, 5] [0, 1, 3, 4] [0, 1, 4, 2, 3, 5] rfl rfl (by decide) (by decide) rfl (by decide) (va_runS (As := [.ref (g_p1 0), .int x2, .int x3]) (rest := []) C0.1 (c_X9_numberAt l D K g_p1 p1_gapCount p1_targetCount p1_lookCount p1_time p1_gone p1_lookNumbers x2 x3 r_5 hc_6 H.size) (va_cwS 3 hts gX9_alignedLasts_X9_numberAt rfl rfl rfl (by decide +kernel) ⟨Nat.le_of_ble_eq_true rfl, Nat.le_of_ble_eq_true rfl⟩) (xp_S C0.2 hP hD hS [2, 5] rfl (by decide)) rfl rfl hl.1 rfl (lv_room (Nat.le_of_ble_eq_true rfl)) dX9_alignedLasts_57 ⟨Nat.le_of_ble_eq_true rfl, Nat.le_of_ble_eq_true rfl⟩) (fun H locs hP hD hS => ?_)
  refine lv_iload hx hb dX9_alignedLasts_60 (lv_at hl 2 rfl) ?_
  refine lv_isub hx hb dX9_alignedLasts_62 ?_
  refine lv_i2l hx hb dX9_alignedLasts_63 rfl ?_
  refine lv_lload hx hb dX9_alignedLasts_64 (lv_at hl 1 rfl) ?_
  refine lv_lmul hx hb dX9_alignedLasts_66 ?_
  refine lv_lstore (lv' := [(10, .long (((r_5 - r_1)).toInt64 * (((p1_lookTimes (p1_lookCount - (1 : Int32)).toNatClampNeg) - (p1_lookTimes 0))).toInt64)), (8, .long ((((p1_lookTimes (x2).toNatClampNeg) - (p1_lookTimes 0))).toInt64)), (6, .long ((((p1_lookTimes (p1_lookCount - (1 : Int32)).toNatClampNeg) - (p1_lookTimes 0))).toInt64)), (5, .int r_1), (4, .int (p1_lookCount - (1 : Int32))), (0, .ref (g_t 0)), (1, .ref (g_p1 0)), (2, .int x2), (3, .int x3)]) hx hb dX9_alignedLasts_67 hl (by decide) rfl (fun ls hl => ?_)
  refine lv_iconst (v := 0) hx hb dX9_alignedLasts_69 (by decide) ?_
  refine lv_istore (lv' := [(12, .int (0 : Int32)), (10, .long (((r_5 - r_1)).toInt64 * (((p1_lookTimes (p1_lookCount - (1 : Int32)).toNatClampNeg) - (p1_lookTimes 0))).toInt64)), (8, .long ((((p1_lookTimes (x2).toNatClampNeg) - (p1_lookTimes 0))).toInt64)), (6, .long ((((p1_lookTimes (p1_lookCount - (1 : Int32)).toNatClampNeg) - (p1_lookTimes 0))).toInt64)), (5, .int r_1), (4, .int (p1_lookCount - (1 : Int32))), (0, .ref (g_t 0)), (1, .ref (g_p1 0)), (2, .int x2), (3, .int x3)]) hx hb dX9_alignedLasts_70 hl (by decide) rfl (fun ls hl => ?_)
  refine lv_iconst (v := 0) hx hb dX9_alignedLasts_72 (by decide) ?_
  refine lv_istore (lv' := [(13, .int (0 : Int32)), (12, .int (0 : Int32)), (10, .long (((r_5 - r_1)).toInt64 * (((p1_lookTimes (p1_lookCount - (1 : Int32)).toNatClampNeg) - (p1_lookTimes 0))).toInt64)), (8, .long ((((p1_lookTimes (x2).toNatClampNeg) - (p1_lookTimes 0))).toInt64)), (6, .long ((((p1_lookTimes (p1_lookCount - (1 : Int32)).toNatClampNeg) - (p1_lookTimes 0))).toInt64)), (5, .int r_1), (4, .int (p1_lookCount - (1 : Int32))), (0, .ref (g_t 0)), (1, .ref (g_p1 0)), (2, .int x2), (3, .int x3)]) hx hb dX9_alignedLasts_73 hl (by decide) rfl (fun ls hl => ?_)
  exact w_X9_alignedLasts_75 C0 HR fu_ (p1_lookCount - (1 : Int32)) r_1 ((((p1_lookTimes (p1_lookCount - (1 : Int32)).toNatClampNeg) - (p1_lookTimes 0))).toInt64) ((((p1_lookTimes (x2).toNatClampNeg) - (p1_lookTimes 0))).toInt64) (((r_5 - r_1)).toInt64 * (((p1_lookTimes (p1_lookCount - (1 : Int32)).toNatClampNeg) - (p1_lookTimes 0))).toInt64) (0 : Int32) (0 : Int32) H locs ls hP hD hS (lv_sub hl [8, 6, 5, 4, 3, 2, 1, 0] rfl) hF

/-! StaggerRadar.Tracks.alignAll(LStaggerRadar$Radar;)V -/
abbrev rmX9_alignAll : Room := { frames := 2, cells := 0, slots := 0, locals := 57 }
theorem fl_X9_alignAll_9 : Cond.fieldLink RX9 9 "StaggerRadar$Tracks" "lasts" "[I" ∈ wsX9_alignAll := by decide +kernel
theorem fl_X9_alignAll_29 : Cond.fieldLink RX9 29 "StaggerRadar$Radar" "lookCount" "I" ∈ wsX9_alignAll := by decide +kernel
theorem fl_X9_alignAll_34 : Cond.fieldLink RX9 34 "StaggerRadar$Radar" "lookSizes" "[I" ∈ wsX9_alignAll := by decide +kernel
theorem iw_X9_alignAll_X5 : ∀ w ∈ u_ws RX5 TX5 13, w ∈ wsX9_alignAll := by decide +kernel
theorem iw_X9_alignAll_X9 : ∀ w ∈ u_ws RX9 TX9 3, w ∈ wsX9_alignAll := by decide +kernel
abbrev w_X9_alignAll (K : Nat → ClassId) (g_t : Nat → Nat) (g_p1 : Nat → Nat) (t_passed : Int32) (t_lasts : Nat → Int32) (t_path : Nat → Int32) (p1_gapCount : Int32) (p1_targetCount : Int32) (p1_lookCount : Int32) (p1_time : Int32) (p1_gone : Int32) (p1_lookTimes : Nat → Int32) (p1_lookSizes : Nat → Int32) (p1_lookNumbers : Nat → Int32) : va_W := [((g_t 0), .inr (8, [.ref (g_t 1), .ref (g_t 2), .int t_passed])), ((g_t 1), .inl (K 0, 48, .inl t_lasts)), ((g_t 2), .inl (K 0, 4, .inl t_path)), ((g_p1 0), .inr (5, [.ref (g_p1 1), .ref (g_p1 2), .ref (g_p1 3), .ref (g_p1 4), .ref (g_p1 5), .ref (g_p1 6), .ref (g_p1 7), .ref (g_p1 8), .int p1_gapCount, .int p1_targetCount, .int p1_lookCount, .int p1_time, .int p1_gone])), ((g_p1 6), .inl (K 0, 4, .inl p1_lookTimes)), ((g_p1 7), .inl (K 0, 4, .inl p1_lookSizes)), ((g_p1 8), .inl (K 0, 48, .inl p1_lookNumbers))]
def L_X9_alignAll_14 (t_path : Nat → Int32) (p1_lookCount : Int32) (p1_lookTimes : Nat → Int32) (p1_lookSizes : Nat → Int32) (p1_lookNumbers : Nat → Int32) (k_2 : (Nat → Int32) → Int32 → Option ((Nat → Int32))) : Nat → (Nat → Int32) → Int32 → Int32 → Option ((Nat → Int32))
  | 0, _, _, _ => none
  | n_ + 1, t_lasts, x2, x3 =>
    gd_ (in_b x2 4) (if (p1_lookSizes (x2).toNatClampNeg) ≤ x3 then (k_2 t_lasts (x2 + (1 : Int32))) else ((F_X9_alignedLasts t_path p1_lookCount p1_lookTimes p1_lookSizes p1_lookNumbers x2 x3).bind fun r_3 => (gd_ (in_b ((x2 * (12 : Int32)) + x3) 48) (L_X9_alignAll_14 t_path p1_lookCount p1_lookTimes p1_lookSizes p1_lookNumbers k_2 n_ (upd t_lasts ((x2 * (12 : Int32)) + x3).toNatClampNeg r_3) x2 (x3 + (1 : Int32))))))
set_option maxHeartbeats 4000000 in
set_option maxRecDepth 100000 in
theorem w_X9_alignAll_14 {p : Program} {l : Launch} {e : Env} {s : State} {m : MethodId} {args : Array Value} {below : List Frame} {meth : Method} {c : Code} {D : va_G} {K : Nat → ClassId} {A : Nat → Prop} {Q : State → Prop} (C0 : cx_ p s m args c cX9_alignAll 4 RX9 wsX9_alignAll D K A) {g_t : Nat → Nat} {g_p1 : Nat → Nat} {t_passed : Int32} {t_path : Nat → Int32} {p1_gapCount : Int32} {p1_targetCount : Int32} {p1_lookCount : Int32} {p1_time : Int32} {p1_gone : Int32} {p1_lookTimes : Nat → Int32} {p1_lookSizes : Nat → Int32} {p1_lookNumbers : Nat → Int32} {res : (Nat → Int32)} (HR : ∀ (pc : Nat) (H : Heap) (locs : List Loc) (ls : Array Slot), decode cX9_alignAll pc = .ok (.return_, 1) → va_P D vwCl (w_X9_alignAll K g_t g_p1 t_passed res t_path p1_gapCount p1_targetCount p1_lookCount p1_time p1_gone p1_lookTimes p1_lookSizes p1_lookNumbers) H → va_D A (w_X9_alignAll K g_t g_p1 t_passed res t_path p1_gapCount p1_targetCount p1_lookCount p1_time p1_gone p1_lookTimes p1_lookSizes p1_lookNumbers) → va_S A s.heap H locs → W p l e rmX9_alignAll s m args below meth c H locs 0 0 Q (F0 m pc ls [])) {k_2 : (Nat → Int32) → Int32 → Option ((Nat → Int32))} (HK_2 : ∀ (t_lasts : Nat → Int32) (x2 : Int32) (H : Heap) (locs : List Loc) (ls : Array Slot), va_P D vwCl (w_X9_alignAll K g_t g_p1 t_passed t_lasts t_path p1_gapCount p1_targetCount p1_lookCount p1_time p1_gone p1_lookTimes p1_lookSizes p1_lookNumbers) H → va_D A (w_X9_alignAll K g_t g_p1 t_passed t_lasts t_path p1_gapCount p1_targetCount p1_lookCount p1_time p1_gone p1_lookTimes p1_lookSizes p1_lookNumbers) → va_S A s.heap H locs → lv_has ls 4 [(0, .ref (g_t 0)), (1, .ref (g_p1 0)), (2, .int x2)] → k_2 t_lasts x2 = some res → W p l e rmX9_alignAll s m args below meth c H locs 0 0 Q (F0 m 2 ls [])) :
    ∀ (n_ : Nat) (t_lasts : Nat → Int32) (x2 : Int32) (x3 : Int32) (H : Heap) (locs : List Loc) (ls : Array Slot), va_P D vwCl (w_X9_alignAll K g_t g_p1 t_passed t_lasts t_path p1_gapCount p1_targetCount p1_lookCount p1_time p1_gone p1_lookTimes p1_lookSizes p1_lookNumbers) H → va_D A (w_X9_alignAll K g_t g_p1 t_passed t_lasts t_path p1_gapCount p1_targetCount p1_lookCount p1_time p1_gone p1_lookTimes p1_lookSizes p1_lookNumbers) → va_S A s.heap H locs → lv_has ls 4 [(0, .ref (g_t 0)), (1, .ref (g_p1 0)), (2, .int x2), (3, .int x3)] → L_X9_alignAll_14 t_path p1_lookCount p1_lookTimes p1_lookSizes p1_lookNumbers k_2 n_ t_lasts x2 x3 = some res → W p l e rmX9_alignAll s m args below meth c H locs 0 0 Q (F0 m 14 ls []) := by
  obtain ⟨⟨hx, hb, hml, hown, hts⟩, hK, -⟩ := id C0
  intro n_
  induction n_ with
  | zero =>
    intro t_lasts x2 x3 H locs ls hP hD hS hl hF
    exact no_s (show (none : Option ((Nat → Int32))) = some res from hF)
  | succ n_ ih =>
    intro t_lasts x2 x3 H locs ls hP hD hS hl hF
    rw [L_X9_alignAll_14] at hF
    refine lv_iload_n hx hb dX9_alignAll_14 rfl (lv_at hl 3 rfl) ?_
    refine lv_aload_n hx hb dX9_alignAll_15 rfl (lv_at hl 1 rfl) ?_
    refine va_get (D := D) (ci := 5) (v := .ref (g_p1 7)) (C := RX5) (T := TX5) (N := 13) hx hb hts iw_X9_alignAll_X5 hown hK hP 3 rfl rfl 6 (by decide) (hts _ fl_X9_alignAll_34) (fun _ h9 => h9) rfl dX9_alignAll_16 ?_
    refine lv_iload_n hx hb dX9_alignAll_19 rfl (lv_at hl 2 rfl) ?_
    obtain ⟨hg_1, hF⟩ := gd_some hF
    refine xl_i (f := p1_lookSizes) hx hb hK hP 5 0 rfl rfl rfl (in_v hg_1) dX9_alignAll_20 ?_
    refine lv_icmp_ge (tgt := 48) hx hb dX9_alignAll_21 (by decide) (fun c_2 => ?_) (fun c_2 => ?_)
    · have hF := it_pos c_2 hF
      refine lv_iinc (v := (x2 + (1 : Int32))) (lv' := [(2, .int (x2 + (1 : Int32))), (0, .ref (g_t 0)), (1, .ref (g_p1 0)), (3, .int x3)]) hx hb dX9_alignAll_48 hl (k := 2) rfl (congrArg (fun z => x2 + z) (by decide)) (by decide) rfl (fun ls hl => ?_)
      refine lv_goto (tgt := 2) hx hb dX9_alignAll_51 (by decide) ?_
      exact HK_2 t_lasts (x2 + (1 : Int32)) H locs ls hP hD hS (lv_sub hl [1, 2, 0] rfl) hF
    · have hF := it_neg c_2 hF
      refine lv_aload_n hx hb dX9_alignAll_24 rfl (lv_at hl 0 rfl) ?_
      refine va_get (D := D) (ci := 8) (v := .ref (g_t 1)) (C := RX9) (T := TX9) (N := 3) hx hb hts iw_X9_alignAll_X9 hown hK hP 0 rfl rfl 0 (by decide) (hts _ fl_X9_alignAll_9) (fun _ h9 => h9) rfl dX9_alignAll_25 ?_
      refine lv_iload_n hx hb dX9_alignAll_28 rfl (lv_at hl 2 rfl) ?_
      refine lv_bipush (v := 12) hx hb dX9_alignAll_29 (by decide) ?_
      refine lv_imul hx hb dX9_alignAll_31 ?_
      refine lv_iload_n hx hb dX9_alignAll_32 rfl (lv_at hl 3 rfl) ?_
      refine lv_iadd hx hb dX9_alignAll_33 ?_
      refine lv_aload_n hx hb dX9_alignAll_34 rfl (lv_at hl 0 rfl) ?_
      refine lv_aload_n hx hb dX9_alignAll_35 rfl (lv_at hl 1 rfl) ?_
      refine lv_iload_n hx hb dX9_alignAll_36 rfl (lv_at hl 2 rfl) ?_
      refine lv_iload_n hx hb dX9_alignAll_37 rfl (lv_at hl 3 rfl) ?_
      obtain ⟨r_3, hc_4, hF⟩ := bn_some hF
      refine xc_i (wn := (w_X9_alignAll K g_t g_p1 t_passed t_lasts t_path p1_gapCount p1_targetCount p1_lookCount p1_time p1_gone p1_lookTimes p1_lookSizes p1_lookNumbers)) hP hD hS C0.2.2.1 [0, 2, 3, 4, 5, 6] [1] [1, 0, 2, 3, 4, 5, 6] rfl rfl (by decide) (by decide) rfl (by decide) (va_runV (As := [.ref (g_p1 0), .int x2, .int x3]) (rest := [.int ((x2 * (12 : Int32)) + x3), .ref (g_t 1)]) C0.1 (c_X9_alignedLasts l D K g_t g_p1 t_passed t_path p1_gapCount p1_targetCount p1_lookCount p1_time p1_gone p1_lookTimes p1_lookSizes p1_lookNumbers x2 x3 r_3 hc_4 H.size) (cwV 3 hts gX9_alignAll_X9_alignedLasts rfl rfl rfl (by decide +kernel) ⟨Nat.le_of_ble_eq_true rfl, Nat.le_of_ble_eq_true rfl⟩) (xp_V C0.2 hP hD hS [0, 2, 3, 4, 5, 6] rfl (by decide) 8 0 rfl rfl rfl) rfl rfl hl.1 rfl (lv_room (Nat.le_of_ble_eq_true rfl)) dX9_alignAll_38 ⟨Nat.le_of_ble_eq_true rfl, Nat.le_of_ble_eq_true rfl⟩) (fun H locs hP hD hS => ?_)
      obtain ⟨hg_5, hF⟩ := gd_some hF
      refine xs_i (f := t_lasts) hx hb hK hP hD hS 1 0 rfl rfl rfl (in_v hg_5) dX9_alignAll_41 (fun H locs hP hD hS => ?_)
      have hP : va_P D vwCl (w_X9_alignAll K g_t g_p1 t_passed (upd t_lasts ((x2 * (12 : Int32)) + x3).toNatClampNeg r_3) t_path p1_gapCount p1_targetCount p1_lookCount p1_time p1_gone p1_lookTimes p1_lookSizes p1_lookNumbers) H := hP
      have hD : va_D A (w_X9_alignAll K g_t g_p1 t_passed (upd t_lasts ((x2 * (12 : Int32)) + x3).toNatClampNeg r_3) t_path p1_gapCount p1_targetCount p1_lookCount p1_time p1_gone p1_lookTimes p1_lookSizes p1_lookNumbers) := hD
      refine lv_iinc (v := (x3 + (1 : Int32))) (lv' := [(3, .int (x3 + (1 : Int32))), (0, .ref (g_t 0)), (1, .ref (g_p1 0)), (2, .int x2)]) hx hb dX9_alignAll_42 hl (k := 3) rfl (congrArg (fun z => x3 + z) (by decide)) (by decide) rfl (fun ls hl => ?_)
      refine lv_goto (tgt := 14) hx hb dX9_alignAll_45 (by decide) ?_
      exact ih (upd t_lasts ((x2 * (12 : Int32)) + x3).toNatClampNeg r_3) x2 (x3 + (1 : Int32)) H locs ls hP hD hS (lv_sub hl [1, 2, 3, 0] rfl) hF
def L_X9_alignAll_2 (t_path : Nat → Int32) (p1_lookCount : Int32) (p1_lookTimes : Nat → Int32) (p1_lookSizes : Nat → Int32) (p1_lookNumbers : Nat → Int32) : Nat → (Nat → Int32) → Int32 → Option ((Nat → Int32))
  | 0, _, _ => none
  | n_ + 1, t_lasts, x2 =>
    if (p1_lookCount - (1 : Int32)) ≤ x2 then (some t_lasts) else (L_X9_alignAll_14 t_path p1_lookCount p1_lookTimes p1_lookSizes p1_lookNumbers (L_X9_alignAll_2 t_path p1_lookCount p1_lookTimes p1_lookSizes p1_lookNumbers n_) fu_ t_lasts x2 (0 : Int32))
set_option maxHeartbeats 4000000 in
set_option maxRecDepth 100000 in
theorem w_X9_alignAll_2 {p : Program} {l : Launch} {e : Env} {s : State} {m : MethodId} {args : Array Value} {below : List Frame} {meth : Method} {c : Code} {D : va_G} {K : Nat → ClassId} {A : Nat → Prop} {Q : State → Prop} (C0 : cx_ p s m args c cX9_alignAll 4 RX9 wsX9_alignAll D K A) {g_t : Nat → Nat} {g_p1 : Nat → Nat} {t_passed : Int32} {t_path : Nat → Int32} {p1_gapCount : Int32} {p1_targetCount : Int32} {p1_lookCount : Int32} {p1_time : Int32} {p1_gone : Int32} {p1_lookTimes : Nat → Int32} {p1_lookSizes : Nat → Int32} {p1_lookNumbers : Nat → Int32} {res : (Nat → Int32)} (HR : ∀ (pc : Nat) (H : Heap) (locs : List Loc) (ls : Array Slot), decode cX9_alignAll pc = .ok (.return_, 1) → va_P D vwCl (w_X9_alignAll K g_t g_p1 t_passed res t_path p1_gapCount p1_targetCount p1_lookCount p1_time p1_gone p1_lookTimes p1_lookSizes p1_lookNumbers) H → va_D A (w_X9_alignAll K g_t g_p1 t_passed res t_path p1_gapCount p1_targetCount p1_lookCount p1_time p1_gone p1_lookTimes p1_lookSizes p1_lookNumbers) → va_S A s.heap H locs → W p l e rmX9_alignAll s m args below meth c H locs 0 0 Q (F0 m pc ls []))  :
    ∀ (n_ : Nat) (t_lasts : Nat → Int32) (x2 : Int32) (H : Heap) (locs : List Loc) (ls : Array Slot), va_P D vwCl (w_X9_alignAll K g_t g_p1 t_passed t_lasts t_path p1_gapCount p1_targetCount p1_lookCount p1_time p1_gone p1_lookTimes p1_lookSizes p1_lookNumbers) H → va_D A (w_X9_alignAll K g_t g_p1 t_passed t_lasts t_path p1_gapCount p1_targetCount p1_lookCount p1_time p1_gone p1_lookTimes p1_lookSizes p1_lookNumbers) → va_S A s.heap H locs → lv_has ls 4 [(0, .ref (g_t 0)), (1, .ref (g_p1 0)), (2, .int x2)] → L_X9_alignAll_2 t_path p1_lookCount p1_lookTimes p1_lookSizes p1_lookNumbers n_ t_lasts x2 = some res → W p l e rmX9_alignAll s m args below meth c H locs 0 0 Q (F0 m 2 ls []) := by
  obtain ⟨⟨hx, hb, hml, hown, hts⟩, hK, -⟩ := id C0
  intro n_
  induction n_ with
  | zero =>
    intro t_lasts x2 H locs ls hP hD hS hl hF
    exact no_s (show (none : Option ((Nat → Int32))) = some res from hF)
  | succ n_ ih =>
    intro t_lasts x2 H locs ls hP hD hS hl hF
    rw [L_X9_alignAll_2] at hF
    refine lv_iload_n hx hb dX9_alignAll_2 rfl (lv_at hl 2 rfl) ?_
    refine lv_aload_n hx hb dX9_alignAll_3 rfl (lv_at hl 1 rfl) ?_
    refine va_get (D := D) (ci := 5) (v := .int p1_lookCount) (C := RX5) (T := TX5) (N := 13) hx hb hts iw_X9_alignAll_X5 hown hK hP 3 rfl rfl 10 (by decide) (hts _ fl_X9_alignAll_29) (fun _ h9 => h9) rfl dX9_alignAll_4 ?_
    refine lv_iconst (v := 1) hx hb dX9_alignAll_7 (by decide) ?_
    refine lv_isub hx hb dX9_alignAll_8 ?_
    refine lv_icmp_ge (tgt := 54) hx hb dX9_alignAll_9 (by decide) (fun c_1 => ?_) (fun c_1 => ?_)
    · have hF := it_pos c_1 hF
      obtain rfl := Option.some.inj hF
      exact HR 54 H locs ls dX9_alignAll_54 hP hD hS
    · have hF := it_neg c_1 hF
      refine lv_iconst (v := 0) hx hb dX9_alignAll_12 (by decide) ?_
      refine lv_istore_n (lv' := [(3, .int (0 : Int32)), (0, .ref (g_t 0)), (1, .ref (g_p1 0)), (2, .int x2)]) hx hb dX9_alignAll_13 rfl hl (by decide) rfl (fun ls hl => ?_)
      exact w_X9_alignAll_14 C0 HR ih fu_ t_lasts x2 (0 : Int32) H locs ls hP hD hS (lv_sub hl [1, 2, 3, 0] rfl) hF
def F_X9_alignAll (t_lasts : Nat → Int32) (t_path : Nat → Int32) (p1_lookCount : Int32) (p1_lookTimes : Nat → Int32) (p1_lookSizes : Nat → Int32) (p1_lookNumbers : Nat → Int32) : Option ((Nat → Int32)) :=
  L_X9_alignAll_2 t_path p1_lookCount p1_lookTimes p1_lookSizes p1_lookNumbers fu_ t_lasts (1 : Int32)
set_option maxHeartbeats 4000000 in
set_option maxRecDepth 100000 in
theorem c_X9_alignAll (l : Launch) (D : va_G) (K : Nat → ClassId) (g_t : Nat → Nat) (g_p1 : Nat → Nat) (t_passed : Int32) (t_lasts : Nat → Int32) (t_path : Nat → Int32) (p1_gapCount : Int32) (p1_targetCount : Int32) (p1_lookCount : Int32) (p1_time : Int32) (p1_gone : Int32) (p1_lookTimes : Nat → Int32) (p1_lookSizes : Nat → Int32) (p1_lookNumbers : Nat → Int32) (res : (Nat → Int32)) (hF : F_X9_alignAll t_lasts t_path p1_lookCount p1_lookTimes p1_lookSizes p1_lookNumbers = some res) :
    Mv_ l yX9_alignAll wsX9_alignAll rmX9_alignAll D K [.ref (g_t 0), .ref (g_p1 0)] (w_X9_alignAll K g_t g_p1 t_passed t_lasts t_path p1_gapCount p1_targetCount p1_lookCount p1_time p1_gone p1_lookTimes p1_lookSizes p1_lookNumbers) (w_X9_alignAll K g_t g_p1 t_passed res t_path p1_gapCount p1_targetCount p1_lookCount p1_time p1_gone p1_lookTimes p1_lookSizes p1_lookNumbers) := by
  refine en_v (cc := cX9_alignAll) (maxL := 4) (own := RX9) (by decide) rfl rfl (Nat.le_of_ble_eq_true rfl) ?_
  intro p e s m args below meth c A Q H locs ls C0 hP hD hS hl HR
  obtain ⟨⟨hx, hb, hml, hown, hts⟩, hK, -⟩ := id C0
  have hl : lv_has ls 4 [(0, .ref (g_t 0)), (1, .ref (g_p1 0))] := hl
  unfold F_X9_alignAll at hF
  refine lv_iconst (v := 1) hx hb dX9_alignAll_0 (by decide) ?_
  refine lv_istore_n (lv' := [(2, .int (1 : Int32)), (0, .ref (g_t 0)), (1, .ref (g_p1 0))]) hx hb dX9_alignAll_1 rfl hl (by decide) rfl (fun ls hl => ?_)
  exact w_X9_alignAll_2 C0 HR fu_ t_lasts (1 : Int32) H locs ls hP hD hS (lv_sub hl [1, 2, 0] rfl) hF

/-! StaggerRadar.Tracks.placeOfBit(II)I -/
abbrev rmX9_placeOfBit : Room := { frames := 0, cells := 0, slots := 0, locals := 0 }
abbrev w_X9_placeOfBit (K : Nat → ClassId) : va_W := []
def L_X9_placeOfBit_4  : Nat → Int32 → Int32 → Int32 → Option (Int32)
  | 0, _, _, _ => none
  | n_ + 1, x0, x2, x3 =>
    if (12 : Int32) ≤ x3 then (some (0 : Int32)) else (if ((x0 >>> (x3 &&& 31)) &&& (1 : Int32)) = (0 : Int32) then (L_X9_placeOfBit_4 n_ x0 x2 (x3 + (1 : Int32))) else (if x2 = (0 : Int32) then (some x3) else (L_X9_placeOfBit_4 n_ x0 (x2 + (-1 : Int32)) (x3 + (1 : Int32)))))
set_option maxHeartbeats 4000000 in
set_option maxRecDepth 100000 in
theorem w_X9_placeOfBit_4 {p : Program} {l : Launch} {e : Env} {s : State} {m : MethodId} {args : Array Value} {below : List Frame} {meth : Method} {c : Code} {D : va_G} {K : Nat → ClassId} {A : Nat → Prop} {Q : State → Prop} (C0 : cx_ p s m args c cX9_placeOfBit 4 RX9 wsX9_placeOfBit D K A)   {res : Int32} (HR : ∀ (pc : Nat) (H : Heap) (locs : List Loc) (ls : Array Slot), decode cX9_placeOfBit pc = .ok (.ireturn, 1) → va_P D vwCl (w_X9_placeOfBit K) H → va_D A (w_X9_placeOfBit K) → va_S A s.heap H locs → W p l e rmX9_placeOfBit s m args below meth c H locs 0 0 Q (F0 m pc ls [.int res]))  :
    ∀ (n_ : Nat) (x0 : Int32) (x2 : Int32) (x3 : Int32) (H : Heap) (locs : List Loc) (ls : Array Slot), va_P D vwCl (w_X9_placeOfBit K) H → va_D A (w_X9_placeOfBit K) → va_S A s.heap H locs → lv_has ls 4 [(0, .int x0), (2, .int x2), (3, .int x3)] → L_X9_placeOfBit_4 n_ x0 x2 x3 = some res → W p l e rmX9_placeOfBit s m args below meth c H locs 0 0 Q (F0 m 4 ls []) := by
  obtain ⟨⟨hx, hb, hml, hown, hts⟩, hK, -⟩ := id C0
  intro n_
  induction n_ with
  | zero =>
    intro x0 x2 x3 H locs ls hP hD hS hl hF
    exact no_s (show (none : Option (Int32)) = some res from hF)
  | succ n_ ih =>
    intro x0 x2 x3 H locs ls hP hD hS hl hF
    rw [L_X9_placeOfBit_4] at hF
    refine lv_iload_n hx hb dX9_placeOfBit_4 rfl (lv_at hl 2 rfl) ?_
    refine lv_bipush (v := 12) hx hb dX9_placeOfBit_5 (by decide) ?_
    refine lv_icmp_ge (tgt := 33) hx hb dX9_placeOfBit_7 (by decide) (fun c_1 => ?_) (fun c_1 => ?_)
    · have hF := it_pos c_1 hF
      refine lv_iconst (v := 0) hx hb dX9_placeOfBit_33 (by decide) ?_
      obtain rfl := Option.some.inj hF
      exact HR 34 H locs ls dX9_placeOfBit_34 hP hD hS
    · have hF := it_neg c_1 hF
      refine lv_iload_n hx hb dX9_placeOfBit_10 rfl (lv_at hl 0 rfl) ?_
      refine lv_iload_n hx hb dX9_placeOfBit_11 rfl (lv_at hl 2 rfl) ?_
      refine lv_ishr hx hb dX9_placeOfBit_12 ?_
      refine lv_iconst (v := 1) hx hb dX9_placeOfBit_13 (by decide) ?_
      refine lv_iand hx hb dX9_placeOfBit_14 ?_
      refine lv_if_eq (tgt := 27) hx hb dX9_placeOfBit_15 (by decide) (fun c_2 => ?_) (fun c_2 => ?_)
      · have hF := it_pos c_2 hF
        refine lv_iinc (v := (x3 + (1 : Int32))) (lv' := [(3, .int (x3 + (1 : Int32))), (0, .int x0), (2, .int x2)]) hx hb dX9_placeOfBit_27 hl (k := 2) rfl (congrArg (fun z => x3 + z) (by decide)) (by decide) rfl (fun ls hl => ?_)
        refine lv_goto (tgt := 4) hx hb dX9_placeOfBit_30 (by decide) ?_
        exact ih x0 x2 (x3 + (1 : Int32)) H locs ls hP hD hS (lv_sub hl [1, 2, 0] rfl) hF
      · have hF := it_neg c_2 hF
        refine lv_iload_n hx hb dX9_placeOfBit_18 rfl (lv_at hl 1 rfl) ?_
        refine lv_if_ne (tgt := 24) hx hb dX9_placeOfBit_19 (by decide) (fun c_3 => ?_) (fun c_3 => ?_)
        · have hF := it_neg c_3 hF
          refine lv_iinc (v := (x2 + (-1 : Int32))) (lv' := [(2, .int (x2 + (-1 : Int32))), (0, .int x0), (3, .int x3)]) hx hb dX9_placeOfBit_24 hl (k := 1) rfl (congrArg (fun z => x2 + z) (by decide)) (by decide) rfl (fun ls hl => ?_)
          refine lv_iinc (v := (x3 + (1 : Int32))) (lv' := [(3, .int (x3 + (1 : Int32))), (2, .int (x2 + (-1 : Int32))), (0, .int x0)]) hx hb dX9_placeOfBit_27 hl (k := 2) rfl (congrArg (fun z => x3 + z) (by decide)) (by decide) rfl (fun ls hl => ?_)
          refine lv_goto (tgt := 4) hx hb dX9_placeOfBit_30 (by decide) ?_
          exact ih x0 (x2 + (-1 : Int32)) (x3 + (1 : Int32)) H locs ls hP hD hS (lv_sub hl [2, 1, 0] rfl) hF
        · have hF := it_pos c_3 hF
          refine lv_iload_n hx hb dX9_placeOfBit_22 rfl (lv_at hl 2 rfl) ?_
          obtain rfl := Option.some.inj hF
          exact HR 23 H locs ls dX9_placeOfBit_23 hP hD hS
def F_X9_placeOfBit (x0 : Int32) (x1 : Int32) : Option (Int32) :=
  L_X9_placeOfBit_4 fu_ x0 x1 (0 : Int32)
set_option maxHeartbeats 4000000 in
set_option maxRecDepth 100000 in
theorem c_X9_placeOfBit (l : Launch) (D : va_G) (K : Nat → ClassId) (x0 : Int32) (x1 : Int32) (res : Int32) (hF : F_X9_placeOfBit x0 x1 = some res) :
    Mi_ l yX9_placeOfBit wsX9_placeOfBit rmX9_placeOfBit D K [.int x0, .int x1] (w_X9_placeOfBit K) (w_X9_placeOfBit K) (res) := by
  refine en_i (cc := cX9_placeOfBit) (maxL := 4) (own := RX9) (by decide) rfl rfl (Nat.le_of_ble_eq_true rfl) ?_
  intro p e s m args below meth c A Q H locs ls C0 hP hD hS hl HR
  obtain ⟨⟨hx, hb, hml, hown, hts⟩, hK, -⟩ := id C0
  have hl : lv_has ls 4 [(0, .int x0), (1, .int x1)] := hl
  unfold F_X9_placeOfBit at hF
  refine lv_iload_n hx hb dX9_placeOfBit_0 rfl (lv_at hl 1 rfl) ?_
  refine lv_istore_n (lv' := [(2, .int x1), (0, .int x0), (1, .int x1)]) hx hb dX9_placeOfBit_1 rfl hl (by decide) rfl (fun ls hl => ?_)
  refine lv_iconst (v := 0) hx hb dX9_placeOfBit_2 (by decide) ?_
  refine lv_istore_n (lv' := [(3, .int (0 : Int32)), (2, .int x1), (0, .int x0), (1, .int x1)]) hx hb dX9_placeOfBit_3 rfl hl (by decide) rfl (fun ls hl => ?_)
  exact w_X9_placeOfBit_4 C0 HR fu_ x0 x1 (0 : Int32) H locs ls hP hD hS (lv_sub hl [2, 1, 0] rfl) hF

/-! StaggerRadar.Tracks.seekMiddle(LStaggerRadar$Radar;I)Z -/
abbrev rmX9_seekMiddle : Room := { frames := 1, cells := 0, slots := 0, locals := 23 }
theorem fl_X9_seekMiddle_9 : Cond.fieldLink RX9 9 "StaggerRadar$Tracks" "lasts" "[I" ∈ wsX9_seekMiddle := by decide +kernel
theorem fl_X9_seekMiddle_15 : Cond.fieldLink RX9 15 "StaggerRadar$Tracks" "path" "[I" ∈ wsX9_seekMiddle := by decide +kernel
theorem fl_X9_seekMiddle_25 : Cond.fieldLink RX9 25 "StaggerRadar$Tracks" "passed" "I" ∈ wsX9_seekMiddle := by decide +kernel
theorem fl_X9_seekMiddle_29 : Cond.fieldLink RX9 29 "StaggerRadar$Radar" "lookCount" "I" ∈ wsX9_seekMiddle := by decide +kernel
theorem fl_X9_seekMiddle_34 : Cond.fieldLink RX9 34 "StaggerRadar$Radar" "lookSizes" "[I" ∈ wsX9_seekMiddle := by decide +kernel
theorem iw_X9_seekMiddle_X5 : ∀ w ∈ u_ws RX5 TX5 13, w ∈ wsX9_seekMiddle := by decide +kernel
theorem iw_X9_seekMiddle_X9 : ∀ w ∈ u_ws RX9 TX9 3, w ∈ wsX9_seekMiddle := by decide +kernel
abbrev w_X9_seekMiddle (K : Nat → ClassId) (g_t : Nat → Nat) (g_p1 : Nat → Nat) (t_passed : Int32) (t_lasts : Nat → Int32) (t_path : Nat → Int32) (p1_gapCount : Int32) (p1_targetCount : Int32) (p1_lookCount : Int32) (p1_time : Int32) (p1_gone : Int32) (p1_lookSizes : Nat → Int32) : va_W := [((g_t 0), .inr (8, [.ref (g_t 1), .ref (g_t 2), .int t_passed])), ((g_t 1), .inl (K 0, 48, .inl t_lasts)), ((g_t 2), .inl (K 0, 4, .inl t_path)), ((g_p1 0), .inr (5, [.ref (g_p1 1), .ref (g_p1 2), .ref (g_p1 3), .ref (g_p1 4), .ref (g_p1 5), .ref (g_p1 6), .ref (g_p1 7), .ref (g_p1 8), .int p1_gapCount, .int p1_targetCount, .int p1_lookCount, .int p1_time, .int p1_gone])), ((g_p1 7), .inl (K 0, 4, .inl p1_lookSizes))]
def J_X9_seekMiddle_145 (t_lasts : Nat → Int32) (p1_lookCount : Int32) (p1_lookSizes : Nat → Int32) (t_passed : Int32) (t_path : Nat → Int32) (x2 : Int32) (x3 : Int32) (x7 : Int32) (x8 : Int32) (x9 : Int32) : Option (Int32 × Int32 × (Nat → Int32)) :=
  (F_X9_placeOfBit x9 (x2 - t_passed)).bind fun r_1 => (gd_ (in_b x3 4) (some ((1 : Int32), t_passed, (upd (upd (upd t_path 1 x7) 2 x8) (x3).toNatClampNeg r_1))))
set_option maxHeartbeats 4000000 in
set_option maxRecDepth 100000 in
theorem w_X9_seekMiddle_145 {p : Program} {l : Launch} {e : Env} {s : State} {m : MethodId} {args : Array Value} {below : List Frame} {meth : Method} {c : Code} {D : va_G} {K : Nat → ClassId} {A : Nat → Prop} {Q : State → Prop} (C0 : cx_ p s m args c cX9_seekMiddle 11 RX9 wsX9_seekMiddle D K A) {g_t : Nat → Nat} {g_p1 : Nat → Nat} {t_lasts : Nat → Int32} {p1_gapCount : Int32} {p1_targetCount : Int32} {p1_lookCount : Int32} {p1_time : Int32} {p1_gone : Int32} {p1_lookSizes : Nat → Int32} {res : Int32 × Int32 × (Nat → Int32)} (HR : ∀ (pc : Nat) (H : Heap) (locs : List Loc) (ls : Array Slot), decode cX9_seekMiddle pc = .ok (.ireturn, 1) → narrow .boolean (.int res.1) = .int res.1 → va_P D vwCl (w_X9_seekMiddle K g_t g_p1 res.2.1 t_lasts res.2.2 p1_gapCount p1_targetCount p1_lookCount p1_time p1_gone p1_lookSizes) H → va_D A (w_X9_seekMiddle K g_t g_p1 res.2.1 t_lasts res.2.2 p1_gapCount p1_targetCount p1_lookCount p1_time p1_gone p1_lookSizes) → va_S A s.heap H locs → W p l e rmX9_seekMiddle s m args below meth c H locs 0 0 Q (F0 m pc ls [.int res.1]))  :
    ∀ (t_passed : Int32) (t_path : Nat → Int32) (x2 : Int32) (x3 : Int32) (x7 : Int32) (x8 : Int32) (x9 : Int32) (H : Heap) (locs : List Loc) (ls : Array Slot), va_P D vwCl (w_X9_seekMiddle K g_t g_p1 t_passed t_lasts t_path p1_gapCount p1_targetCount p1_lookCount p1_time p1_gone p1_lookSizes) H → va_D A (w_X9_seekMiddle K g_t g_p1 t_passed t_lasts t_path p1_gapCount p1_targetCount p1_lookCount p1_time p1_gone p1_lookSizes) → va_S A s.heap H locs → lv_has ls 11 [(0, .ref (g_t 0)), (2, .int x2), (3, .int x3), (7, .int x7), (8, .int x8), (9, .int x9)] → J_X9_seekMiddle_145 t_lasts p1_lookCount p1_lookSizes t_passed t_path x2 x3 x7 x8 x9 = some res → W p l e rmX9_seekMiddle s m args below meth c H locs 0 0 Q (F0 m 145 ls []) := by
  obtain ⟨⟨hx, hb, hml, hown, hts⟩, hK, -⟩ := id C0
  intro t_passed t_path x2 x3 x7 x8 x9 H locs ls hP hD hS hl hF
  unfold J_X9_seekMiddle_145 at hF
  refine lv_aload_n hx hb dX9_seekMiddle_145 rfl (lv_at hl 0 rfl) ?_
  refine va_get (D := D) (ci := 8) (v := .ref (g_t 2)) (C := RX9) (T := TX9) (N := 3) hx hb hts iw_X9_seekMiddle_X9 hown hK hP 0 rfl rfl 1 (by decide) (hts _ fl_X9_seekMiddle_15) (fun _ h9 => h9) rfl dX9_seekMiddle_146 ?_
  refine lv_iconst (v := 1) hx hb dX9_seekMiddle_149 (by decide) ?_
  refine lv_iload hx hb dX9_seekMiddle_150 (lv_at hl 3 rfl) ?_
  refine xs_i (f := t_path) hx hb hK hP hD hS 2 0 rfl rfl (k := 1) (by decide) (in_v (by decide)) dX9_seekMiddle_152 (fun H locs hP hD hS => ?_)
  have hP : va_P D vwCl (w_X9_seekMiddle K g_t g_p1 t_passed t_lasts (upd t_path 1 x7) p1_gapCount p1_targetCount p1_lookCount p1_time p1_gone p1_lookSizes) H := hP
  have hD : va_D A (w_X9_seekMiddle K g_t g_p1 t_passed t_lasts (upd t_path 1 x7) p1_gapCount p1_targetCount p1_lookCount p1_time p1_gone p1_lookSizes) := hD
  refine lv_aload_n hx hb dX9_seekMiddle_153 rfl (lv_at hl 0 rfl) ?_
  refine va_get (D := D) (ci := 8) (v := .ref (g_t 2)) (C := RX9) (T := TX9) (N := 3) hx hb hts iw_X9_seekMiddle_X9 hown hK hP 0 rfl rfl 1 (by decide) (hts _ fl_X9_seekMiddle_15) (fun _ h9 => h9) rfl dX9_seekMiddle_154 ?_
  refine lv_iconst (v := 2) hx hb dX9_seekMiddle_157 (by decide) ?_
  refine lv_iload hx hb dX9_seekMiddle_158 (lv_at hl 4 rfl) ?_
  refine xs_i (f := (upd t_path 1 x7)) hx hb hK hP hD hS 2 0 rfl rfl (k := 2) (by decide) (in_v (by decide)) dX9_seekMiddle_160 (fun H locs hP hD hS => ?_)
  have hP : va_P D vwCl (w_X9_seekMiddle K g_t g_p1 t_passed t_lasts (upd (upd t_path 1 x7) 2 x8) p1_gapCount p1_targetCount p1_lookCount p1_time p1_gone p1_lookSizes) H := hP
  have hD : va_D A (w_X9_seekMiddle K g_t g_p1 t_passed t_lasts (upd (upd t_path 1 x7) 2 x8) p1_gapCount p1_targetCount p1_lookCount p1_time p1_gone p1_lookSizes) := hD
  refine lv_aload_n hx hb dX9_seekMiddle_161 rfl (lv_at hl 0 rfl) ?_
  refine va_get (D := D) (ci := 8) (v := .ref (g_t 2)) (C := RX9) (T := TX9) (N := 3) hx hb hts iw_X9_seekMiddle_X9 hown hK hP 0 rfl rfl 1 (by decide) (hts _ fl_X9_seekMiddle_15) (fun _ h9 => h9) rfl dX9_seekMiddle_162 ?_
  refine lv_iload_n hx hb dX9_seekMiddle_165 rfl (lv_at hl 2 rfl) ?_
  refine lv_iload hx hb dX9_seekMiddle_166 (lv_at hl 5 rfl) ?_
  refine lv_iload_n hx hb dX9_seekMiddle_168 rfl (lv_at hl 1 rfl) ?_
  refine lv_aload_n hx hb dX9_seekMiddle_169 rfl (lv_at hl 0 rfl) ?_
  refine va_get (D := D) (ci := 8) (v := .int t_passed) (C := RX9) (T := TX9) (N := 3) hx hb hts iw_X9_seekMiddle_X9 hown hK hP 0 rfl rfl 2 (by decide) (hts _ fl_X9_seekMiddle_25) (fun _ h9 => h9) rfl dX9_seekMiddle_170 ?_
  refine lv_isub hx hb dX9_seekMiddle_173 ?_
  obtain ⟨r_1, hc_2, hF⟩ := bn_some hF
  refine xc_i (wn := (w_X9_seekMiddle K g_t g_p1 t_passed t_lasts (upd (upd t_path 1 x7) 2 x8) p1_gapCount p1_targetCount p1_lookCount p1_time p1_gone p1_lookSizes)) hP hD hS C0.2.2.1 [] [0, 1, 2, 3, 4] [0, 1, 2, 3, 4] rfl rfl (by decide) (by decide) rfl (by decide) (va_runS (As := [.int x9, .int (x2 - t_passed)]) (rest := [.int x3, .ref (g_t 2)]) C0.1 (c_X9_placeOfBit l D K x9 (x2 - t_passed) r_1 hc_2 H.size) (va_cwS 2 hts gX9_seekMiddle_X9_placeOfBit rfl rfl rfl (by decide +kernel) ⟨Nat.le_of_ble_eq_true rfl, Nat.le_of_ble_eq_true rfl⟩) (xp_S C0.2 hP hD hS [] rfl (by decide)) rfl rfl hl.1 rfl (lv_room (Nat.le_of_ble_eq_true rfl)) dX9_seekMiddle_174 ⟨Nat.le_of_ble_eq_true rfl, Nat.le_of_ble_eq_true rfl⟩) (fun H locs hP hD hS => ?_)
  obtain ⟨hg_3, hF⟩ := gd_some hF
  refine xs_i (f := (upd (upd t_path 1 x7) 2 x8)) hx hb hK hP hD hS 2 0 rfl rfl rfl (in_v hg_3) dX9_seekMiddle_177 (fun H locs hP hD hS => ?_)
  have hP : va_P D vwCl (w_X9_seekMiddle K g_t g_p1 t_passed t_lasts (upd (upd (upd t_path 1 x7) 2 x8) (x3).toNatClampNeg r_1) p1_gapCount p1_targetCount p1_lookCount p1_time p1_gone p1_lookSizes) H := hP
  have hD : va_D A (w_X9_seekMiddle K g_t g_p1 t_passed t_lasts (upd (upd (upd t_path 1 x7) 2 x8) (x3).toNatClampNeg r_1) p1_gapCount p1_targetCount p1_lookCount p1_time p1_gone p1_lookSizes) := hD
  refine lv_iconst (v := 1) hx hb dX9_seekMiddle_178 (by decide) ?_
  obtain rfl := Option.some.inj hF
  exact HR 179 H locs ls dX9_seekMiddle_179 narrow_b1 hP hD hS
def J_X9_seekMiddle_124 (t_lasts : Nat → Int32) (p1_lookCount : Int32) (p1_lookSizes : Nat → Int32) (k_56 : Int32 → (Nat → Int32) → Int32 → Int32 → Int32 → Int32 → Int32 → Int32 → Option (Int32 × Int32 × (Nat → Int32))) (k_66 : Int32 → (Nat → Int32) → Int32 → Int32 → Int32 → Int32 → Int32 → Int32 → Int32 → Option (Int32 × Int32 × (Nat → Int32))) (t_passed : Int32) (t_path : Nat → Int32) (x2 : Int32) (x3 : Int32) (x4 : Int32) (x5 : Int32) (x6 : Int32) (x7 : Int32) (x8 : Int32) (s0 : Int32) (s1 : Int32) : Option (Int32 × Int32 × (Nat → Int32)) :=
  (F_J6_bitCount_0f7a4 (s0 &&& s1)).bind fun r_1 => (if r_1 ≤ (x2 - t_passed) then (k_66 (t_passed + r_1) t_path x2 x3 x4 x5 x6 x7 (x8 + (1 : Int32))) else (J_X9_seekMiddle_145 t_lasts p1_lookCount p1_lookSizes t_passed t_path x2 x3 x7 x8 (s0 &&& s1)))
set_option maxHeartbeats 4000000 in
set_option maxRecDepth 100000 in
theorem w_X9_seekMiddle_124 {p : Program} {l : Launch} {e : Env} {s : State} {m : MethodId} {args : Array Value} {below : List Frame} {meth : Method} {c : Code} {D : va_G} {K : Nat → ClassId} {A : Nat → Prop} {Q : State → Prop} (C0 : cx_ p s m args c cX9_seekMiddle 11 RX9 wsX9_seekMiddle D K A) {g_t : Nat → Nat} {g_p1 : Nat → Nat} {t_lasts : Nat → Int32} {p1_gapCount : Int32} {p1_targetCount : Int32} {p1_lookCount : Int32} {p1_time : Int32} {p1_gone : Int32} {p1_lookSizes : Nat → Int32} {res : Int32 × Int32 × (Nat → Int32)} (HR : ∀ (pc : Nat) (H : Heap) (locs : List Loc) (ls : Array Slot), decode cX9_seekMiddle pc = .ok (.ireturn, 1) → narrow .boolean (.int res.1) = .int res.1 → va_P D vwCl (w_X9_seekMiddle K g_t g_p1 res.2.1 t_lasts res.2.2 p1_gapCount p1_targetCount p1_lookCount p1_time p1_gone p1_lookSizes) H → va_D A (w_X9_seekMiddle K g_t g_p1 res.2.1 t_lasts res.2.2 p1_gapCount p1_targetCount p1_lookCount p1_time p1_gone p1_lookSizes) → va_S A s.heap H locs → W p l e rmX9_seekMiddle s m args below meth c H locs 0 0 Q (F0 m pc ls [.int res.1])) {k_56 : Int32 → (Nat → Int32) → Int32 → Int32 → Int32 → Int32 → Int32 → Int32 → Option (Int32 × Int32 × (Nat → Int32))} (HK_56 : ∀ (t_passed : Int32) (t_path : Nat → Int32) (x2 : Int32) (x3 : Int32) (x4 : Int32) (x5 : Int32) (x6 : Int32) (x7 : Int32) (H : Heap) (locs : List Loc) (ls : Array Slot), va_P D vwCl (w_X9_seekMiddle K g_t g_p1 t_passed t_lasts t_path p1_gapCount p1_targetCount p1_lookCount p1_time p1_gone p1_lookSizes) H → va_D A (w_X9_seekMiddle K g_t g_p1 t_passed t_lasts t_path p1_gapCount p1_targetCount p1_lookCount p1_time p1_gone p1_lookSizes) → va_S A s.heap H locs → lv_has ls 11 [(0, .ref (g_t 0)), (2, .int x2), (3, .int x3), (4, .int x4), (5, .int x5), (6, .int x6), (7, .int x7)] → k_56 t_passed t_path x2 x3 x4 x5 x6 x7 = some res → W p l e rmX9_seekMiddle s m args below meth c H locs 0 0 Q (F0 m 56 ls [])) {k_66 : Int32 → (Nat → Int32) → Int32 → Int32 → Int32 → Int32 → Int32 → Int32 → Int32 → Option (Int32 × Int32 × (Nat → Int32))} (HK_66 : ∀ (t_passed : Int32) (t_path : Nat → Int32) (x2 : Int32) (x3 : Int32) (x4 : Int32) (x5 : Int32) (x6 : Int32) (x7 : Int32) (x8 : Int32) (H : Heap) (locs : List Loc) (ls : Array Slot), va_P D vwCl (w_X9_seekMiddle K g_t g_p1 t_passed t_lasts t_path p1_gapCount p1_targetCount p1_lookCount p1_time p1_gone p1_lookSizes) H → va_D A (w_X9_seekMiddle K g_t g_p1 t_passed t_lasts t_path p1_gapCount p1_targetCount p1_lookCount p1_time p1_gone p1_lookSizes) → va_S A s.heap H locs → lv_has ls 11 [(0, .ref (g_t 0)), (2, .int x2), (3, .int x3), (4, .int x4), (5, .int x5), (6, .int x6), (7, .int x7), (8, .int x8)] → k_66 t_passed t_path x2 x3 x4 x5 x6 x7 x8 = some res → W p l e rmX9_seekMiddle s m args below meth c H locs 0 0 Q (F0 m 66 ls [])) :
    ∀ (t_passed : Int32) (t_path : Nat → Int32) (x2 : Int32) (x3 : Int32) (x4 : Int32) (x5 : Int32) (x6 : Int32) (x7 : Int32) (x8 : Int32) (s0 : Int32) (s1 : Int32) (H : Heap) (locs : List Loc) (ls : Array Slot), va_P D vwCl (w_X9_seekMiddle K g_t g_p1 t_passed t_lasts t_path p1_gapCount p1_targetCount p1_lookCount p1_time p1_gone p1_lookSizes) H → va_D A (w_X9_seekMiddle K g_t g_p1 t_passed t_lasts t_path p1_gapCount p1_targetCount p1_lookCount p1_time p1_gone p1_lookSizes) → va_S A s.heap H locs → lv_has ls 11 [(0, .ref (g_t 0)), (2, .int x2), (3, .int x3), (4, .int x4), (5, .int x5), (6, .int x6), (7, .int x7), (8, .int x8)] → J_X9_seekMiddle_124 t_lasts p1_lookCount p1_lookSizes k_56 k_66 t_passed t_path x2 x3 x4 x5 x6 x7 x8 s0 s1 = some res → W p l e rmX9_seekMiddle s m args below meth c H locs 0 0 Q (F0 m 124 ls [.int s1, .int s0]) := by
  obtain ⟨⟨hx, hb, hml, hown, hts⟩, hK, -⟩ := id C0
  intro t_passed t_path x2 x3 x4 x5 x6 x7 x8 s0 s1 H locs ls hP hD hS hl hF
  unfold J_X9_seekMiddle_124 at hF
  refine lv_iand hx hb dX9_seekMiddle_124 ?_
  refine lv_istore (lv' := [(9, .int (s0 &&& s1)), (0, .ref (g_t 0)), (2, .int x2), (3, .int x3), (4, .int x4), (5, .int x5), (6, .int x6), (7, .int x7), (8, .int x8)]) hx hb dX9_seekMiddle_125 hl (by decide) rfl (fun ls hl => ?_)
  refine lv_iload hx hb dX9_seekMiddle_127 (lv_at hl 0 rfl) ?_
  obtain ⟨r_1, hc_2, hF⟩ := bn_some hF
  refine xc_i (wn := (w_X9_seekMiddle K g_t g_p1 t_passed t_lasts t_path p1_gapCount p1_targetCount p1_lookCount p1_time p1_gone p1_lookSizes)) hP hD hS C0.2.2.1 [] [0, 1, 2, 3, 4] [0, 1, 2, 3, 4] rfl rfl (by decide) (by decide) rfl (by decide) (va_runS (As := [.int (s0 &&& s1)]) (rest := []) C0.1 (c_J6_bitCount_0f7a4 l D K (s0 &&& s1) r_1 hc_2 H.size) (va_cwS 1 hts gX9_seekMiddle_J6_bitCount_0f7a4 rfl rfl rfl (by decide +kernel) ⟨Nat.le_of_ble_eq_true rfl, Nat.le_of_ble_eq_true rfl⟩) (xp_S C0.2 hP hD hS [] rfl (by decide)) rfl rfl hl.1 rfl (lv_room (Nat.le_of_ble_eq_true rfl)) dX9_seekMiddle_129 ⟨Nat.le_of_ble_eq_true rfl, Nat.le_of_ble_eq_true rfl⟩) (fun H locs hP hD hS => ?_)
  refine lv_istore (lv' := [(10, .int r_1), (9, .int (s0 &&& s1)), (0, .ref (g_t 0)), (2, .int x2), (3, .int x3), (4, .int x4), (5, .int x5), (6, .int x6), (7, .int x7), (8, .int x8)]) hx hb dX9_seekMiddle_132 hl (by decide) rfl (fun ls hl => ?_)
  refine lv_iload_n hx hb dX9_seekMiddle_134 rfl (lv_at hl 3 rfl) ?_
  refine lv_aload_n hx hb dX9_seekMiddle_135 rfl (lv_at hl 2 rfl) ?_
  refine va_get (D := D) (ci := 8) (v := .int t_passed) (C := RX9) (T := TX9) (N := 3) hx hb hts iw_X9_seekMiddle_X9 hown hK hP 0 rfl rfl 2 (by decide) (hts _ fl_X9_seekMiddle_25) (fun _ h9 => h9) rfl dX9_seekMiddle_136 ?_
  refine lv_isub hx hb dX9_seekMiddle_139 ?_
  refine lv_iload hx hb dX9_seekMiddle_140 (lv_at hl 0 rfl) ?_
  refine lv_icmp_ge (tgt := 180) hx hb dX9_seekMiddle_142 (by decide) (fun c_3 => ?_) (fun c_3 => ?_)
  · have hF := it_pos c_3 hF
    refine lv_aload_n hx hb dX9_seekMiddle_180 rfl (lv_at hl 2 rfl) ?_
    refine lv_dup hx hb dX9_seekMiddle_181 rfl ?_
    refine va_get (D := D) (ci := 8) (v := .int t_passed) (C := RX9) (T := TX9) (N := 3) hx hb hts iw_X9_seekMiddle_X9 hown hK hP 0 rfl rfl 2 (by decide) (hts _ fl_X9_seekMiddle_25) (fun _ h9 => h9) rfl dX9_seekMiddle_182 ?_
    refine lv_iload hx hb dX9_seekMiddle_185 (lv_at hl 0 rfl) ?_
    refine lv_iadd hx hb dX9_seekMiddle_187 ?_
    refine va_put (D := D) (ci := 8) (v := .int (t_passed + r_1)) (ty := .int) (C := RX9) (T := TX9) (N := 3) hx hb hts iw_X9_seekMiddle_X9 tyX9 tyX9_ok nmX9 hown hK hP hD hS 0 rfl rfl 2 (by decide) (hts _ fl_X9_seekMiddle_25) (fun _ h9 => h9) rfl (by decide +kernel) rfl rfl (Nat.le_of_ble_eq_true rfl) dX9_seekMiddle_188 (fun H locs hP hD hS => ?_)
    have hP : va_P D vwCl (w_X9_seekMiddle K g_t g_p1 (t_passed + r_1) t_lasts t_path p1_gapCount p1_targetCount p1_lookCount p1_time p1_gone p1_lookSizes) H := hP
    have hD : va_D A (w_X9_seekMiddle K g_t g_p1 (t_passed + r_1) t_lasts t_path p1_gapCount p1_targetCount p1_lookCount p1_time p1_gone p1_lookSizes) := hD
    refine lv_iinc (v := (x8 + (1 : Int32))) (lv' := [(8, .int (x8 + (1 : Int32))), (10, .int r_1), (9, .int (s0 &&& s1)), (0, .ref (g_t 0)), (2, .int x2), (3, .int x3), (4, .int x4), (5, .int x5), (6, .int x6), (7, .int x7)]) hx hb dX9_seekMiddle_191 hl (k := 9) rfl (congrArg (fun z => x8 + z) (by decide)) (by decide) rfl (fun ls hl => ?_)
    refine lv_goto (tgt := 66) hx hb dX9_seekMiddle_194 (by decide) ?_
    exact HK_66 (t_passed + r_1) t_path x2 x3 x4 x5 x6 x7 (x8 + (1 : Int32)) H locs ls hP hD hS (lv_sub hl [3, 4, 5, 6, 7, 8, 9, 0] rfl) hF
  · have hF := it_neg c_3 hF
    exact w_X9_seekMiddle_145 C0 HR t_passed t_path x2 x3 x7 x8 (s0 &&& s1) H locs ls hP hD hS (lv_sub hl [2, 3, 4, 8, 9, 1] rfl) hF
def J_X9_seekMiddle_99 (t_lasts : Nat → Int32) (p1_lookCount : Int32) (p1_lookSizes : Nat → Int32) (k_56 : Int32 → (Nat → Int32) → Int32 → Int32 → Int32 → Int32 → Int32 → Int32 → Option (Int32 × Int32 × (Nat → Int32))) (k_66 : Int32 → (Nat → Int32) → Int32 → Int32 → Int32 → Int32 → Int32 → Int32 → Int32 → Option (Int32 × Int32 × (Nat → Int32))) (t_passed : Int32) (t_path : Nat → Int32) (x2 : Int32) (x3 : Int32) (x4 : Int32) (x5 : Int32) (x6 : Int32) (x7 : Int32) (x8 : Int32) (s0 : Int32) (s1 : Int32) : Option (Int32 × Int32 × (Nat → Int32)) :=
  if x3 ≤ (2 : Int32) then (J_X9_seekMiddle_124 t_lasts p1_lookCount p1_lookSizes k_56 k_66 t_passed t_path x2 x3 x4 x5 x6 x7 x8 (s0 &&& s1) x4) else (gd_ (in_b ((24 : Int32) + x8) 48) (J_X9_seekMiddle_124 t_lasts p1_lookCount p1_lookSizes k_56 k_66 t_passed t_path x2 x3 x4 x5 x6 x7 x8 (s0 &&& s1) (t_lasts ((24 : Int32) + x8).toNatClampNeg)))
set_option maxHeartbeats 4000000 in
set_option maxRecDepth 100000 in
theorem w_X9_seekMiddle_99 {p : Program} {l : Launch} {e : Env} {s : State} {m : MethodId} {args : Array Value} {below : List Frame} {meth : Method} {c : Code} {D : va_G} {K : Nat → ClassId} {A : Nat → Prop} {Q : State → Prop} (C0 : cx_ p s m args c cX9_seekMiddle 11 RX9 wsX9_seekMiddle D K A) {g_t : Nat → Nat} {g_p1 : Nat → Nat} {t_lasts : Nat → Int32} {p1_gapCount : Int32} {p1_targetCount : Int32} {p1_lookCount : Int32} {p1_time : Int32} {p1_gone : Int32} {p1_lookSizes : Nat → Int32} {res : Int32 × Int32 × (Nat → Int32)} (HR : ∀ (pc : Nat) (H : Heap) (locs : List Loc) (ls : Array Slot), decode cX9_seekMiddle pc = .ok (.ireturn, 1) → narrow .boolean (.int res.1) = .int res.1 → va_P D vwCl (w_X9_seekMiddle K g_t g_p1 res.2.1 t_lasts res.2.2 p1_gapCount p1_targetCount p1_lookCount p1_time p1_gone p1_lookSizes) H → va_D A (w_X9_seekMiddle K g_t g_p1 res.2.1 t_lasts res.2.2 p1_gapCount p1_targetCount p1_lookCount p1_time p1_gone p1_lookSizes) → va_S A s.heap H locs → W p l e rmX9_seekMiddle s m args below meth c H locs 0 0 Q (F0 m pc ls [.int res.1])) {k_56 : Int32 → (Nat → Int32) → Int32 → Int32 → Int32 → Int32 → Int32 → Int32 → Option (Int32 × Int32 × (Nat → Int32))} (HK_56 : ∀ (t_passed : Int32) (t_path : Nat → Int32) (x2 : Int32) (x3 : Int32) (x4 : Int32) (x5 : Int32) (x6 : Int32) (x7 : Int32) (H : Heap) (locs : List Loc) (ls : Array Slot), va_P D vwCl (w_X9_seekMiddle K g_t g_p1 t_passed t_lasts t_path p1_gapCount p1_targetCount p1_lookCount p1_time p1_gone p1_lookSizes) H → va_D A (w_X9_seekMiddle K g_t g_p1 t_passed t_lasts t_path p1_gapCount p1_targetCount p1_lookCount p1_time p1_gone p1_lookSizes) → va_S A s.heap H locs → lv_has ls 11 [(0, .ref (g_t 0)), (2, .int x2), (3, .int x3), (4, .int x4), (5, .int x5), (6, .int x6), (7, .int x7)] → k_56 t_passed t_path x2 x3 x4 x5 x6 x7 = some res → W p l e rmX9_seekMiddle s m args below meth c H locs 0 0 Q (F0 m 56 ls [])) {k_66 : Int32 → (Nat → Int32) → Int32 → Int32 → Int32 → Int32 → Int32 → Int32 → Int32 → Option (Int32 × Int32 × (Nat → Int32))} (HK_66 : ∀ (t_passed : Int32) (t_path : Nat → Int32) (x2 : Int32) (x3 : Int32) (x4 : Int32) (x5 : Int32) (x6 : Int32) (x7 : Int32) (x8 : Int32) (H : Heap) (locs : List Loc) (ls : Array Slot), va_P D vwCl (w_X9_seekMiddle K g_t g_p1 t_passed t_lasts t_path p1_gapCount p1_targetCount p1_lookCount p1_time p1_gone p1_lookSizes) H → va_D A (w_X9_seekMiddle K g_t g_p1 t_passed t_lasts t_path p1_gapCount p1_targetCount p1_lookCount p1_time p1_gone p1_lookSizes) → va_S A s.heap H locs → lv_has ls 11 [(0, .ref (g_t 0)), (2, .int x2), (3, .int x3), (4, .int x4), (5, .int x5), (6, .int x6), (7, .int x7), (8, .int x8)] → k_66 t_passed t_path x2 x3 x4 x5 x6 x7 x8 = some res → W p l e rmX9_seekMiddle s m args below meth c H locs 0 0 Q (F0 m 66 ls [])) :
    ∀ (t_passed : Int32) (t_path : Nat → Int32) (x2 : Int32) (x3 : Int32) (x4 : Int32) (x5 : Int32) (x6 : Int32) (x7 : Int32) (x8 : Int32) (s0 : Int32) (s1 : Int32) (H : Heap) (locs : List Loc) (ls : Array Slot), va_P D vwCl (w_X9_seekMiddle K g_t g_p1 t_passed t_lasts t_path p1_gapCount p1_targetCount p1_lookCount p1_time p1_gone p1_lookSizes) H → va_D A (w_X9_seekMiddle K g_t g_p1 t_passed t_lasts t_path p1_gapCount p1_targetCount p1_lookCount p1_time p1_gone p1_lookSizes) → va_S A s.heap H locs → lv_has ls 11 [(0, .ref (g_t 0)), (2, .int x2), (3, .int x3), (4, .int x4), (5, .int x5), (6, .int x6), (7, .int x7), (8, .int x8)] → J_X9_seekMiddle_99 t_lasts p1_lookCount p1_lookSizes k_56 k_66 t_passed t_path x2 x3 x4 x5 x6 x7 x8 s0 s1 = some res → W p l e rmX9_seekMiddle s m args below meth c H locs 0 0 Q (F0 m 99 ls [.int s1, .int s0]) := by
  obtain ⟨⟨hx, hb, hml, hown, hts⟩, hK, -⟩ := id C0
  intro t_passed t_path x2 x3 x4 x5 x6 x7 x8 s0 s1 H locs ls hP hD hS hl hF
  unfold J_X9_seekMiddle_99 at hF
  refine lv_iand hx hb dX9_seekMiddle_99 ?_
  refine lv_istore (lv' := [(9, .int (s0 &&& s1)), (0, .ref (g_t 0)), (2, .int x2), (3, .int x3), (4, .int x4), (5, .int x5), (6, .int x6), (7, .int x7), (8, .int x8)]) hx hb dX9_seekMiddle_100 hl (by decide) rfl (fun ls hl => ?_)
  refine lv_iload hx hb dX9_seekMiddle_102 (lv_at hl 0 rfl) ?_
  refine lv_iload_n hx hb dX9_seekMiddle_104 rfl (lv_at hl 3 rfl) ?_
  refine lv_iconst (v := 2) hx hb dX9_seekMiddle_105 (by decide) ?_
  refine lv_icmp_le (tgt := 122) hx hb dX9_seekMiddle_106 (by decide) (fun c_1 => ?_) (fun c_1 => ?_)
  · have hF := it_pos c_1 hF
    refine lv_iload hx hb dX9_seekMiddle_122 (lv_at hl 4 rfl) ?_
    exact w_X9_seekMiddle_124 C0 HR HK_56 HK_66 t_passed t_path x2 x3 x4 x5 x6 x7 x8 (s0 &&& s1) x4 H locs ls hP hD hS (lv_sub hl [1, 2, 3, 4, 5, 6, 7, 8] rfl) hF
  · have hF := it_neg c_1 hF
    refine lv_aload_n hx hb dX9_seekMiddle_109 rfl (lv_at hl 1 rfl) ?_
    refine va_get (D := D) (ci := 8) (v := .ref (g_t 1)) (C := RX9) (T := TX9) (N := 3) hx hb hts iw_X9_seekMiddle_X9 hown hK hP 0 rfl rfl 0 (by decide) (hts _ fl_X9_seekMiddle_9) (fun _ h9 => h9) rfl dX9_seekMiddle_110 ?_
    refine lv_bipush (v := 24) hx hb dX9_seekMiddle_113 (by decide) ?_
    refine lv_iload hx hb dX9_seekMiddle_115 (lv_at hl 8 rfl) ?_
    refine lv_iadd hx hb dX9_seekMiddle_117 ?_
    obtain ⟨hg_2, hF⟩ := gd_some hF
    refine xl_i (f := t_lasts) hx hb hK hP 1 0 rfl rfl rfl (in_v hg_2) dX9_seekMiddle_118 ?_
    refine lv_goto (tgt := 124) hx hb dX9_seekMiddle_119 (by decide) ?_
    exact w_X9_seekMiddle_124 C0 HR HK_56 HK_66 t_passed t_path x2 x3 x4 x5 x6 x7 x8 (s0 &&& s1) (t_lasts ((24 : Int32) + x8).toNatClampNeg) H locs ls hP hD hS (lv_sub hl [1, 2, 3, 4, 5, 6, 7, 8] rfl) hF
def L_X9_seekMiddle_66 (t_lasts : Nat → Int32) (p1_lookCount : Int32) (p1_lookSizes : Nat → Int32) (k_56 : Int32 → (Nat → Int32) → Int32 → Int32 → Int32 → Int32 → Int32 → Int32 → Option (Int32 × Int32 × (Nat → Int32))) : Nat → Int32 → (Nat → Int32) → Int32 → Int32 → Int32 → Int32 → Int32 → Int32 → Int32 → Option (Int32 × Int32 × (Nat → Int32))
  | 0, _, _, _, _, _, _, _, _, _ => none
  | n_ + 1, t_passed, t_path, x2, x3, x4, x5, x6, x7, x8 =>
    if x6 ≤ x8 then (k_56 t_passed t_path x2 x3 x4 x5 x6 (x7 + (1 : Int32))) else (if x3 ≤ (1 : Int32) then (J_X9_seekMiddle_99 t_lasts p1_lookCount p1_lookSizes k_56 (L_X9_seekMiddle_66 t_lasts p1_lookCount p1_lookSizes k_56 n_) t_passed t_path x2 x3 x4 x5 x6 x7 x8 x4 x4) else (gd_ (in_b ((12 : Int32) + x7) 48) (J_X9_seekMiddle_99 t_lasts p1_lookCount p1_lookSizes k_56 (L_X9_seekMiddle_66 t_lasts p1_lookCount p1_lookSizes k_56 n_) t_passed t_path x2 x3 x4 x5 x6 x7 x8 x4 (t_lasts ((12 : Int32) + x7).toNatClampNeg))))
set_option maxHeartbeats 4000000 in
set_option maxRecDepth 100000 in
theorem w_X9_seekMiddle_66 {p : Program} {l : Launch} {e : Env} {s : State} {m : MethodId} {args : Array Value} {below : List Frame} {meth : Method} {c : Code} {D : va_G} {K : Nat → ClassId} {A : Nat → Prop} {Q : State → Prop} (C0 : cx_ p s m args c cX9_seekMiddle 11 RX9 wsX9_seekMiddle D K A) {g_t : Nat → Nat} {g_p1 : Nat → Nat} {t_lasts : Nat → Int32} {p1_gapCount : Int32} {p1_targetCount : Int32} {p1_lookCount : Int32} {p1_time : Int32} {p1_gone : Int32} {p1_lookSizes : Nat → Int32} {res : Int32 × Int32 × (Nat → Int32)} (HR : ∀ (pc : Nat) (H : Heap) (locs : List Loc) (ls : Array Slot), decode cX9_seekMiddle pc = .ok (.ireturn, 1) → narrow .boolean (.int res.1) = .int res.1 → va_P D vwCl (w_X9_seekMiddle K g_t g_p1 res.2.1 t_lasts res.2.2 p1_gapCount p1_targetCount p1_lookCount p1_time p1_gone p1_lookSizes) H → va_D A (w_X9_seekMiddle K g_t g_p1 res.2.1 t_lasts res.2.2 p1_gapCount p1_targetCount p1_lookCount p1_time p1_gone p1_lookSizes) → va_S A s.heap H locs → W p l e rmX9_seekMiddle s m args below meth c H locs 0 0 Q (F0 m pc ls [.int res.1])) {k_56 : Int32 → (Nat → Int32) → Int32 → Int32 → Int32 → Int32 → Int32 → Int32 → Option (Int32 × Int32 × (Nat → Int32))} (HK_56 : ∀ (t_passed : Int32) (t_path : Nat → Int32) (x2 : Int32) (x3 : Int32) (x4 : Int32) (x5 : Int32) (x6 : Int32) (x7 : Int32) (H : Heap) (locs : List Loc) (ls : Array Slot), va_P D vwCl (w_X9_seekMiddle K g_t g_p1 t_passed t_lasts t_path p1_gapCount p1_targetCount p1_lookCount p1_time p1_gone p1_lookSizes) H → va_D A (w_X9_seekMiddle K g_t g_p1 t_passed t_lasts t_path p1_gapCount p1_targetCount p1_lookCount p1_time p1_gone p1_lookSizes) → va_S A s.heap H locs → lv_has ls 11 [(0, .ref (g_t 0)), (2, .int x2), (3, .int x3), (4, .int x4), (5, .int x5), (6, .int x6), (7, .int x7)] → k_56 t_passed t_path x2 x3 x4 x5 x6 x7 = some res → W p l e rmX9_seekMiddle s m args below meth c H locs 0 0 Q (F0 m 56 ls [])) :
    ∀ (n_ : Nat) (t_passed : Int32) (t_path : Nat → Int32) (x2 : Int32) (x3 : Int32) (x4 : Int32) (x5 : Int32) (x6 : Int32) (x7 : Int32) (x8 : Int32) (H : Heap) (locs : List Loc) (ls : Array Slot), va_P D vwCl (w_X9_seekMiddle K g_t g_p1 t_passed t_lasts t_path p1_gapCount p1_targetCount p1_lookCount p1_time p1_gone p1_lookSizes) H → va_D A (w_X9_seekMiddle K g_t g_p1 t_passed t_lasts t_path p1_gapCount p1_targetCount p1_lookCount p1_time p1_gone p1_lookSizes) → va_S A s.heap H locs → lv_has ls 11 [(0, .ref (g_t 0)), (2, .int x2), (3, .int x3), (4, .int x4), (5, .int x5), (6, .int x6), (7, .int x7), (8, .int x8)] → L_X9_seekMiddle_66 t_lasts p1_lookCount p1_lookSizes k_56 n_ t_passed t_path x2 x3 x4 x5 x6 x7 x8 = some res → W p l e rmX9_seekMiddle s m args below meth c H locs 0 0 Q (F0 m 66 ls []) := by
  obtain ⟨⟨hx, hb, hml, hown, hts⟩, hK, -⟩ := id C0
  intro n_
  induction n_ with
  | zero =>
    intro t_passed t_path x2 x3 x4 x5 x6 x7 x8 H locs ls hP hD hS hl hF
    exact no_s (show (none : Option (Int32 × Int32 × (Nat → Int32))) = some res from hF)
  | succ n_ ih =>
    intro t_passed t_path x2 x3 x4 x5 x6 x7 x8 H locs ls hP hD hS hl hF
    rw [L_X9_seekMiddle_66] at hF
    refine lv_iload hx hb dX9_seekMiddle_66 (lv_at hl 7 rfl) ?_
    refine lv_iload hx hb dX9_seekMiddle_68 (lv_at hl 5 rfl) ?_
    refine lv_icmp_ge (tgt := 197) hx hb dX9_seekMiddle_70 (by decide) (fun c_1 => ?_) (fun c_1 => ?_)
    · have hF := it_pos c_1 hF
      refine lv_iinc (v := (x7 + (1 : Int32))) (lv' := [(7, .int (x7 + (1 : Int32))), (0, .ref (g_t 0)), (2, .int x2), (3, .int x3), (4, .int x4), (5, .int x5), (6, .int x6), (8, .int x8)]) hx hb dX9_seekMiddle_197 hl (k := 6) rfl (congrArg (fun z => x7 + z) (by decide)) (by decide) rfl (fun ls hl => ?_)
      refine lv_goto (tgt := 56) hx hb dX9_seekMiddle_200 (by decide) ?_
      exact HK_56 t_passed t_path x2 x3 x4 x5 x6 (x7 + (1 : Int32)) H locs ls hP hD hS (lv_sub hl [1, 2, 3, 4, 5, 6, 0] rfl) hF
    · have hF := it_neg c_1 hF
      refine lv_iload hx hb dX9_seekMiddle_73 (lv_at hl 3 rfl) ?_
      refine lv_istore (lv' := [(9, .int x4), (0, .ref (g_t 0)), (2, .int x2), (3, .int x3), (4, .int x4), (5, .int x5), (6, .int x6), (7, .int x7), (8, .int x8)]) hx hb dX9_seekMiddle_75 hl (by decide) rfl (fun ls hl => ?_)
      refine lv_iload hx hb dX9_seekMiddle_77 (lv_at hl 0 rfl) ?_
      refine lv_iload_n hx hb dX9_seekMiddle_79 rfl (lv_at hl 3 rfl) ?_
      refine lv_iconst (v := 1) hx hb dX9_seekMiddle_80 (by decide) ?_
      refine lv_icmp_le (tgt := 97) hx hb dX9_seekMiddle_81 (by decide) (fun c_2 => ?_) (fun c_2 => ?_)
      · have hF := it_pos c_2 hF
        refine lv_iload hx hb dX9_seekMiddle_97 (lv_at hl 4 rfl) ?_
        exact w_X9_seekMiddle_99 C0 HR HK_56 ih t_passed t_path x2 x3 x4 x5 x6 x7 x8 x4 x4 H locs ls hP hD hS (lv_sub hl [1, 2, 3, 4, 5, 6, 7, 8] rfl) hF
      · have hF := it_neg c_2 hF
        refine lv_aload_n hx hb dX9_seekMiddle_84 rfl (lv_at hl 1 rfl) ?_
        refine va_get (D := D) (ci := 8) (v := .ref (g_t 1)) (C := RX9) (T := TX9) (N := 3) hx hb hts iw_X9_seekMiddle_X9 hown hK hP 0 rfl rfl 0 (by decide) (hts _ fl_X9_seekMiddle_9) (fun _ h9 => h9) rfl dX9_seekMiddle_85 ?_
        refine lv_bipush (v := 12) hx hb dX9_seekMiddle_88 (by decide) ?_
        refine lv_iload hx hb dX9_seekMiddle_90 (lv_at hl 7 rfl) ?_
        refine lv_iadd hx hb dX9_seekMiddle_92 ?_
        obtain ⟨hg_3, hF⟩ := gd_some hF
        refine xl_i (f := t_lasts) hx hb hK hP 1 0 rfl rfl rfl (in_v hg_3) dX9_seekMiddle_93 ?_
        refine lv_goto (tgt := 99) hx hb dX9_seekMiddle_94 (by decide) ?_
        exact w_X9_seekMiddle_99 C0 HR HK_56 ih t_passed t_path x2 x3 x4 x5 x6 x7 x8 x4 (t_lasts ((12 : Int32) + x7).toNatClampNeg) H locs ls hP hD hS (lv_sub hl [1, 2, 3, 4, 5, 6, 7, 8] rfl) hF
def L_X9_seekMiddle_56 (t_lasts : Nat → Int32) (p1_lookCount : Int32) (p1_lookSizes : Nat → Int32) : Nat → Int32 → (Nat → Int32) → Int32 → Int32 → Int32 → Int32 → Int32 → Int32 → Option (Int32 × Int32 × (Nat → Int32))
  | 0, _, _, _, _, _, _, _, _ => none
  | n_ + 1, t_passed, t_path, x2, x3, x4, x5, x6, x7 =>
    if x5 ≤ x7 then (some ((0 : Int32), t_passed, t_path)) else (L_X9_seekMiddle_66 t_lasts p1_lookCount p1_lookSizes (L_X9_seekMiddle_56 t_lasts p1_lookCount p1_lookSizes n_) fu_ t_passed t_path x2 x3 x4 x5 x6 x7 (0 : Int32))
set_option maxHeartbeats 4000000 in
set_option maxRecDepth 100000 in
theorem w_X9_seekMiddle_56 {p : Program} {l : Launch} {e : Env} {s : State} {m : MethodId} {args : Array Value} {below : List Frame} {meth : Method} {c : Code} {D : va_G} {K : Nat → ClassId} {A : Nat → Prop} {Q : State → Prop} (C0 : cx_ p s m args c cX9_seekMiddle 11 RX9 wsX9_seekMiddle D K A) {g_t : Nat → Nat} {g_p1 : Nat → Nat} {t_lasts : Nat → Int32} {p1_gapCount : Int32} {p1_targetCount : Int32} {p1_lookCount : Int32} {p1_time : Int32} {p1_gone : Int32} {p1_lookSizes : Nat → Int32} {res : Int32 × Int32 × (Nat → Int32)} (HR : ∀ (pc : Nat) (H : Heap) (locs : List Loc) (ls : Array Slot), decode cX9_seekMiddle pc = .ok (.ireturn, 1) → narrow .boolean (.int res.1) = .int res.1 → va_P D vwCl (w_X9_seekMiddle K g_t g_p1 res.2.1 t_lasts res.2.2 p1_gapCount p1_targetCount p1_lookCount p1_time p1_gone p1_lookSizes) H → va_D A (w_X9_seekMiddle K g_t g_p1 res.2.1 t_lasts res.2.2 p1_gapCount p1_targetCount p1_lookCount p1_time p1_gone p1_lookSizes) → va_S A s.heap H locs → W p l e rmX9_seekMiddle s m args below meth c H locs 0 0 Q (F0 m pc ls [.int res.1]))  :
    ∀ (n_ : Nat) (t_passed : Int32) (t_path : Nat → Int32) (x2 : Int32) (x3 : Int32) (x4 : Int32) (x5 : Int32) (x6 : Int32) (x7 : Int32) (H : Heap) (locs : List Loc) (ls : Array Slot), va_P D vwCl (w_X9_seekMiddle K g_t g_p1 t_passed t_lasts t_path p1_gapCount p1_targetCount p1_lookCount p1_time p1_gone p1_lookSizes) H → va_D A (w_X9_seekMiddle K g_t g_p1 t_passed t_lasts t_path p1_gapCount p1_targetCount p1_lookCount p1_time p1_gone p1_lookSizes) → va_S A s.heap H locs → lv_has ls 11 [(0, .ref (g_t 0)), (2, .int x2), (3, .int x3), (4, .int x4), (5, .int x5), (6, .int x6), (7, .int x7)] → L_X9_seekMiddle_56 t_lasts p1_lookCount p1_lookSizes n_ t_passed t_path x2 x3 x4 x5 x6 x7 = some res → W p l e rmX9_seekMiddle s m args below meth c H locs 0 0 Q (F0 m 56 ls []) := by
  obtain ⟨⟨hx, hb, hml, hown, hts⟩, hK, -⟩ := id C0
  intro n_
  induction n_ with
  | zero =>
    intro t_passed t_path x2 x3 x4 x5 x6 x7 H locs ls hP hD hS hl hF
    exact no_s (show (none : Option (Int32 × Int32 × (Nat → Int32))) = some res from hF)
  | succ n_ ih =>
    intro t_passed t_path x2 x3 x4 x5 x6 x7 H locs ls hP hD hS hl hF
    rw [L_X9_seekMiddle_56] at hF
    refine lv_iload hx hb dX9_seekMiddle_56 (lv_at hl 6 rfl) ?_
    refine lv_iload hx hb dX9_seekMiddle_58 (lv_at hl 4 rfl) ?_
    refine lv_icmp_ge (tgt := 203) hx hb dX9_seekMiddle_60 (by decide) (fun c_1 => ?_) (fun c_1 => ?_)
    · have hF := it_pos c_1 hF
      refine lv_iconst (v := 0) hx hb dX9_seekMiddle_203 (by decide) ?_
      obtain rfl := Option.some.inj hF
      exact HR 204 H locs ls dX9_seekMiddle_204 narrow_b0 hP hD hS
    · have hF := it_neg c_1 hF
      refine lv_iconst (v := 0) hx hb dX9_seekMiddle_63 (by decide) ?_
      refine lv_istore (lv' := [(8, .int (0 : Int32)), (0, .ref (g_t 0)), (2, .int x2), (3, .int x3), (4, .int x4), (5, .int x5), (6, .int x6), (7, .int x7)]) hx hb dX9_seekMiddle_64 hl (by decide) rfl (fun ls hl => ?_)
      exact w_X9_seekMiddle_66 C0 HR ih fu_ t_passed t_path x2 x3 x4 x5 x6 x7 (0 : Int32) H locs ls hP hD hS (lv_sub hl [1, 2, 3, 4, 5, 6, 7, 0] rfl) hF
def J_X9_seekMiddle_34 (t_lasts : Nat → Int32) (p1_lookCount : Int32) (p1_lookSizes : Nat → Int32) (t_passed : Int32) (t_path : Nat → Int32) (x2 : Int32) (x3 : Int32) (x4 : Int32) (s0 : Int32) : Option (Int32 × Int32 × (Nat → Int32)) :=
  if x3 ≤ (2 : Int32) then (L_X9_seekMiddle_56 t_lasts p1_lookCount p1_lookSizes fu_ t_passed t_path x2 x3 x4 s0 (1 : Int32) (0 : Int32)) else (L_X9_seekMiddle_56 t_lasts p1_lookCount p1_lookSizes fu_ t_passed t_path x2 x3 x4 s0 (p1_lookSizes 2) (0 : Int32))
set_option maxHeartbeats 4000000 in
set_option maxRecDepth 100000 in
theorem w_X9_seekMiddle_34 {p : Program} {l : Launch} {e : Env} {s : State} {m : MethodId} {args : Array Value} {below : List Frame} {meth : Method} {c : Code} {D : va_G} {K : Nat → ClassId} {A : Nat → Prop} {Q : State → Prop} (C0 : cx_ p s m args c cX9_seekMiddle 11 RX9 wsX9_seekMiddle D K A) {g_t : Nat → Nat} {g_p1 : Nat → Nat} {t_lasts : Nat → Int32} {p1_gapCount : Int32} {p1_targetCount : Int32} {p1_lookCount : Int32} {p1_time : Int32} {p1_gone : Int32} {p1_lookSizes : Nat → Int32} {res : Int32 × Int32 × (Nat → Int32)} (HR : ∀ (pc : Nat) (H : Heap) (locs : List Loc) (ls : Array Slot), decode cX9_seekMiddle pc = .ok (.ireturn, 1) → narrow .boolean (.int res.1) = .int res.1 → va_P D vwCl (w_X9_seekMiddle K g_t g_p1 res.2.1 t_lasts res.2.2 p1_gapCount p1_targetCount p1_lookCount p1_time p1_gone p1_lookSizes) H → va_D A (w_X9_seekMiddle K g_t g_p1 res.2.1 t_lasts res.2.2 p1_gapCount p1_targetCount p1_lookCount p1_time p1_gone p1_lookSizes) → va_S A s.heap H locs → W p l e rmX9_seekMiddle s m args below meth c H locs 0 0 Q (F0 m pc ls [.int res.1]))  :
    ∀ (t_passed : Int32) (t_path : Nat → Int32) (x2 : Int32) (x3 : Int32) (x4 : Int32) (s0 : Int32) (H : Heap) (locs : List Loc) (ls : Array Slot), va_P D vwCl (w_X9_seekMiddle K g_t g_p1 t_passed t_lasts t_path p1_gapCount p1_targetCount p1_lookCount p1_time p1_gone p1_lookSizes) H → va_D A (w_X9_seekMiddle K g_t g_p1 t_passed t_lasts t_path p1_gapCount p1_targetCount p1_lookCount p1_time p1_gone p1_lookSizes) → va_S A s.heap H locs → lv_has ls 11 [(0, .ref (g_t 0)), (1, .ref (g_p1 0)), (2, .int x2), (3, .int x3), (4, .int x4)] → J_X9_seekMiddle_34 t_lasts p1_lookCount p1_lookSizes t_passed t_path x2 x3 x4 s0 = some res → W p l e rmX9_seekMiddle s m args below meth c H locs 0 0 Q (F0 m 34 ls [.int s0]) := by
  obtain ⟨⟨hx, hb, hml, hown, hts⟩, hK, -⟩ := id C0
  intro t_passed t_path x2 x3 x4 s0 H locs ls hP hD hS hl hF
  unfold J_X9_seekMiddle_34 at hF
  refine lv_istore (lv' := [(5, .int s0), (0, .ref (g_t 0)), (1, .ref (g_p1 0)), (2, .int x2), (3, .int x3), (4, .int x4)]) hx hb dX9_seekMiddle_34 hl (by decide) rfl (fun ls hl => ?_)
  refine lv_iload_n hx hb dX9_seekMiddle_36 rfl (lv_at hl 4 rfl) ?_
  refine lv_iconst (v := 2) hx hb dX9_seekMiddle_37 (by decide) ?_
  refine lv_icmp_le (tgt := 50) hx hb dX9_seekMiddle_38 (by decide) (fun c_1 => ?_) (fun c_1 => ?_)
  · have hF := it_pos c_1 hF
    refine lv_iconst (v := 1) hx hb dX9_seekMiddle_50 (by decide) ?_
    refine lv_istore (lv' := [(6, .int (1 : Int32)), (5, .int s0), (0, .ref (g_t 0)), (1, .ref (g_p1 0)), (2, .int x2), (3, .int x3), (4, .int x4)]) hx hb dX9_seekMiddle_51 hl (by decide) rfl (fun ls hl => ?_)
    refine lv_iconst (v := 0) hx hb dX9_seekMiddle_53 (by decide) ?_
    refine lv_istore (lv' := [(7, .int (0 : Int32)), (6, .int (1 : Int32)), (5, .int s0), (0, .ref (g_t 0)), (1, .ref (g_p1 0)), (2, .int x2), (3, .int x3), (4, .int x4)]) hx hb dX9_seekMiddle_54 hl (by decide) rfl (fun ls hl => ?_)
    exact w_X9_seekMiddle_56 C0 HR fu_ t_passed t_path x2 x3 x4 s0 (1 : Int32) (0 : Int32) H locs ls hP hD hS (lv_sub hl [3, 5, 6, 7, 2, 1, 0] rfl) hF
  · have hF := it_neg c_1 hF
    refine lv_aload_n hx hb dX9_seekMiddle_41 rfl (lv_at hl 2 rfl) ?_
    refine va_get (D := D) (ci := 5) (v := .ref (g_p1 7)) (C := RX5) (T := TX5) (N := 13) hx hb hts iw_X9_seekMiddle_X5 hown hK hP 3 rfl rfl 6 (by decide) (hts _ fl_X9_seekMiddle_34) (fun _ h9 => h9) rfl dX9_seekMiddle_42 ?_
    refine lv_iconst (v := 2) hx hb dX9_seekMiddle_45 (by decide) ?_
    refine xl_i (f := p1_lookSizes) hx hb hK hP 4 0 rfl rfl (k := 2) (by decide) (in_v (by decide)) dX9_seekMiddle_46 ?_
    refine lv_goto (tgt := 51) hx hb dX9_seekMiddle_47 (by decide) ?_
    refine lv_istore (lv' := [(6, .int (p1_lookSizes 2)), (5, .int s0), (0, .ref (g_t 0)), (1, .ref (g_p1 0)), (2, .int x2), (3, .int x3), (4, .int x4)]) hx hb dX9_seekMiddle_51 hl (by decide) rfl (fun ls hl => ?_)
    refine lv_iconst (v := 0) hx hb dX9_seekMiddle_53 (by decide) ?_
    refine lv_istore (lv' := [(7, .int (0 : Int32)), (6, .int (p1_lookSizes 2)), (5, .int s0), (0, .ref (g_t 0)), (1, .ref (g_p1 0)), (2, .int x2), (3, .int x3), (4, .int x4)]) hx hb dX9_seekMiddle_54 hl (by decide) rfl (fun ls hl => ?_)
    exact w_X9_seekMiddle_56 C0 HR fu_ t_passed t_path x2 x3 x4 s0 (p1_lookSizes 2) (0 : Int32) H locs ls hP hD hS (lv_sub hl [3, 5, 6, 7, 2, 1, 0] rfl) hF
def F_X9_seekMiddle (t_passed : Int32) (t_lasts : Nat → Int32) (t_path : Nat → Int32) (p1_lookCount : Int32) (p1_lookSizes : Nat → Int32) (x2 : Int32) : Option (Int32 × Int32 × (Nat → Int32)) :=
  gd_ (in_b (p1_lookCount - (1 : Int32)) 4) (if (p1_lookCount - (1 : Int32)) ≤ (1 : Int32) then (J_X9_seekMiddle_34 t_lasts p1_lookCount p1_lookSizes t_passed t_path x2 (p1_lookCount - (1 : Int32)) (((1 : Int32) <<< ((p1_lookSizes (p1_lookCount - (1 : Int32)).toNatClampNeg) &&& 31)) - (1 : Int32)) (1 : Int32)) else (J_X9_seekMiddle_34 t_lasts p1_lookCount p1_lookSizes t_passed t_path x2 (p1_lookCount - (1 : Int32)) (((1 : Int32) <<< ((p1_lookSizes (p1_lookCount - (1 : Int32)).toNatClampNeg) &&& 31)) - (1 : Int32)) (p1_lookSizes 1)))
set_option maxHeartbeats 4000000 in
set_option maxRecDepth 100000 in
theorem c_X9_seekMiddle (l : Launch) (D : va_G) (K : Nat → ClassId) (g_t : Nat → Nat) (g_p1 : Nat → Nat) (t_passed : Int32) (t_lasts : Nat → Int32) (t_path : Nat → Int32) (p1_gapCount : Int32) (p1_targetCount : Int32) (p1_lookCount : Int32) (p1_time : Int32) (p1_gone : Int32) (p1_lookSizes : Nat → Int32) (x2 : Int32) (res : Int32 × Int32 × (Nat → Int32)) (hF : F_X9_seekMiddle t_passed t_lasts t_path p1_lookCount p1_lookSizes x2 = some res) :
    Mi_ l yX9_seekMiddle wsX9_seekMiddle rmX9_seekMiddle D K [.ref (g_t 0), .ref (g_p1 0), .int x2] (w_X9_seekMiddle K g_t g_p1 t_passed t_lasts t_path p1_gapCount p1_targetCount p1_lookCount p1_time p1_gone p1_lookSizes) (w_X9_seekMiddle K g_t g_p1 res.2.1 t_lasts res.2.2 p1_gapCount p1_targetCount p1_lookCount p1_time p1_gone p1_lookSizes) (res.1) := by
  refine en_z (cc := cX9_seekMiddle) (maxL := 11) (own := RX9) (by decide) rfl rfl (Nat.le_of_ble_eq_true rfl) ?_
  intro p e s m args below meth c A Q H locs ls C0 hP hD hS hl HR
  obtain ⟨⟨hx, hb, hml, hown, hts⟩, hK, -⟩ := id C0
  have hl : lv_has ls 11 [(0, .ref (g_t 0)), (1, .ref (g_p1 0)), (2, .int x2)] := hl
  unfold F_X9_seekMiddle at hF
  refine lv_aload_n hx hb dX9_seekMiddle_0 rfl (lv_at hl 1 rfl) ?_
  refine va_get (D := D) (ci := 5) (v := .int p1_lookCount) (C := RX5) (T := TX5) (N := 13) hx hb hts iw_X9_seekMiddle_X5 hown hK hP 3 rfl rfl 10 (by decide) (hts _ fl_X9_seekMiddle_29) (fun _ h9 => h9) rfl dX9_seekMiddle_1 ?_
  refine lv_iconst (v := 1) hx hb dX9_seekMiddle_4 (by decide) ?_
  refine lv_isub hx hb dX9_seekMiddle_5 ?_
  refine lv_istore_n (lv' := [(3, .int (p1_lookCount - (1 : Int32))), (0, .ref (g_t 0)), (1, .ref (g_p1 0)), (2, .int x2)]) hx hb dX9_seekMiddle_6 rfl hl (by decide) rfl (fun ls hl => ?_)
  refine lv_iconst (v := 1) hx hb dX9_seekMiddle_7 (by decide) ?_
  refine lv_aload_n hx hb dX9_seekMiddle_8 rfl (lv_at hl 2 rfl) ?_
  refine va_get (D := D) (ci := 5) (v := .ref (g_p1 7)) (C := RX5) (T := TX5) (N := 13) hx hb hts iw_X9_seekMiddle_X5 hown hK hP 3 rfl rfl 6 (by decide) (hts _ fl_X9_seekMiddle_34) (fun _ h9 => h9) rfl dX9_seekMiddle_9 ?_
  refine lv_iload_n hx hb dX9_seekMiddle_12 rfl (lv_at hl 0 rfl) ?_
  obtain ⟨hg_1, hF⟩ := gd_some hF
  refine xl_i (f := p1_lookSizes) hx hb hK hP 4 0 rfl rfl rfl (in_v hg_1) dX9_seekMiddle_13 ?_
  refine lv_ishl hx hb dX9_seekMiddle_14 ?_
  refine lv_iconst (v := 1) hx hb dX9_seekMiddle_15 (by decide) ?_
  refine lv_isub hx hb dX9_seekMiddle_16 ?_
  refine lv_istore (lv' := [(4, .int (((1 : Int32) <<< ((p1_lookSizes (p1_lookCount - (1 : Int32)).toNatClampNeg) &&& 31)) - (1 : Int32))), (3, .int (p1_lookCount - (1 : Int32))), (0, .ref (g_t 0)), (1, .ref (g_p1 0)), (2, .int x2)]) hx hb dX9_seekMiddle_17 hl (by decide) rfl (fun ls hl => ?_)
  refine lv_iload_n hx hb dX9_seekMiddle_19 rfl (lv_at hl 1 rfl) ?_
  refine lv_iconst (v := 1) hx hb dX9_seekMiddle_20 (by decide) ?_
  refine lv_icmp_le (tgt := 33) hx hb dX9_seekMiddle_21 (by decide) (fun c_2 => ?_) (fun c_2 => ?_)
  · have hF := it_pos c_2 hF
    refine lv_iconst (v := 1) hx hb dX9_seekMiddle_33 (by decide) ?_
    exact w_X9_seekMiddle_34 C0 HR t_passed t_path x2 (p1_lookCount - (1 : Int32)) (((1 : Int32) <<< ((p1_lookSizes (p1_lookCount - (1 : Int32)).toNatClampNeg) &&& 31)) - (1 : Int32)) (1 : Int32) H locs ls hP hD hS (lv_sub hl [2, 3, 4, 1, 0] rfl) hF
  · have hF := it_neg c_2 hF
    refine lv_aload_n hx hb dX9_seekMiddle_24 rfl (lv_at hl 3 rfl) ?_
    refine va_get (D := D) (ci := 5) (v := .ref (g_p1 7)) (C := RX5) (T := TX5) (N := 13) hx hb hts iw_X9_seekMiddle_X5 hown hK hP 3 rfl rfl 6 (by decide) (hts _ fl_X9_seekMiddle_34) (fun _ h9 => h9) rfl dX9_seekMiddle_25 ?_
    refine lv_iconst (v := 1) hx hb dX9_seekMiddle_28 (by decide) ?_
    refine xl_i (f := p1_lookSizes) hx hb hK hP 4 0 rfl rfl (k := 1) (by decide) (in_v (by decide)) dX9_seekMiddle_29 ?_
    refine lv_goto (tgt := 34) hx hb dX9_seekMiddle_30 (by decide) ?_
    exact w_X9_seekMiddle_34 C0 HR t_passed t_path x2 (p1_lookCount - (1 : Int32)) (((1 : Int32) <<< ((p1_lookSizes (p1_lookCount - (1 : Int32)).toNatClampNeg) &&& 31)) - (1 : Int32)) (p1_lookSizes 1) H locs ls hP hD hS (lv_sub hl [2, 3, 4, 1, 0] rfl) hF

/-! StaggerRadar.Tracks.seek(LStaggerRadar$Radar;I)Z -/
abbrev rmX9_seek : Room := { frames := 3, cells := 0, slots := 0, locals := 80 }
theorem fl_X9_seek_15 : Cond.fieldLink RX9 15 "StaggerRadar$Tracks" "path" "[I" ∈ wsX9_seek := by decide +kernel
theorem fl_X9_seek_25 : Cond.fieldLink RX9 25 "StaggerRadar$Tracks" "passed" "I" ∈ wsX9_seek := by decide +kernel
theorem fl_X9_seek_29 : Cond.fieldLink RX9 29 "StaggerRadar$Radar" "lookCount" "I" ∈ wsX9_seek := by decide +kernel
theorem fl_X9_seek_34 : Cond.fieldLink RX9 34 "StaggerRadar$Radar" "lookSizes" "[I" ∈ wsX9_seek := by decide +kernel
theorem iw_X9_seek_X5 : ∀ w ∈ u_ws RX5 TX5 13, w ∈ wsX9_seek := by decide +kernel
theorem iw_X9_seek_X9 : ∀ w ∈ u_ws RX9 TX9 3, w ∈ wsX9_seek := by decide +kernel
abbrev w_X9_seek (K : Nat → ClassId) (g_t : Nat → Nat) (g_p1 : Nat → Nat) (t_passed : Int32) (t_lasts : Nat → Int32) (t_path : Nat → Int32) (p1_gapCount : Int32) (p1_targetCount : Int32) (p1_lookCount : Int32) (p1_time : Int32) (p1_gone : Int32) (p1_lookTimes : Nat → Int32) (p1_lookSizes : Nat → Int32) (p1_lookNumbers : Nat → Int32) : va_W := [((g_t 0), .inr (8, [.ref (g_t 1), .ref (g_t 2), .int t_passed])), ((g_t 1), .inl (K 0, 48, .inl t_lasts)), ((g_t 2), .inl (K 0, 4, .inl t_path)), ((g_p1 0), .inr (5, [.ref (g_p1 1), .ref (g_p1 2), .ref (g_p1 3), .ref (g_p1 4), .ref (g_p1 5), .ref (g_p1 6), .ref (g_p1 7), .ref (g_p1 8), .int p1_gapCount, .int p1_targetCount, .int p1_lookCount, .int p1_time, .int p1_gone])), ((g_p1 6), .inl (K 0, 4, .inl p1_lookTimes)), ((g_p1 7), .inl (K 0, 4, .inl p1_lookSizes)), ((g_p1 8), .inl (K 0, 48, .inl p1_lookNumbers))]
def L_X9_seek_17 (p1_lookCount : Int32) (p1_lookTimes : Nat → Int32) (p1_lookSizes : Nat → Int32) (p1_lookNumbers : Nat → Int32) : Nat → Int32 → (Nat → Int32) → (Nat → Int32) → Int32 → Int32 → Option (Int32 × Int32 × (Nat → Int32) × (Nat → Int32))
  | 0, _, _, _, _, _ => none
  | n_ + 1, t_passed, t_lasts, t_path, x2, x3 =>
    if (p1_lookSizes 0) ≤ x3 then (some ((0 : Int32), t_passed, t_lasts, t_path)) else ((F_X9_alignAll t_lasts (upd t_path 0 x3) p1_lookCount p1_lookTimes p1_lookSizes p1_lookNumbers).bind fun r_2 => ((F_X9_seekMiddle t_passed r_2 (upd t_path 0 x3) p1_lookCount p1_lookSizes x2).bind fun r_4 => (if r_4.1 = (0 : Int32) then (L_X9_seek_17 p1_lookCount p1_lookTimes p1_lookSizes p1_lookNumbers n_ r_4.2.1 r_2 r_4.2.2 x2 (x3 + (1 : Int32))) else (some ((1 : Int32), r_4.2.1, r_2, r_4.2.2)))))
set_option maxHeartbeats 4000000 in
set_option maxRecDepth 100000 in
theorem w_X9_seek_17 {p : Program} {l : Launch} {e : Env} {s : State} {m : MethodId} {args : Array Value} {below : List Frame} {meth : Method} {c : Code} {D : va_G} {K : Nat → ClassId} {A : Nat → Prop} {Q : State → Prop} (C0 : cx_ p s m args c cX9_seek 4 RX9 wsX9_seek D K A) {g_t : Nat → Nat} {g_p1 : Nat → Nat} {p1_gapCount : Int32} {p1_targetCount : Int32} {p1_lookCount : Int32} {p1_time : Int32} {p1_gone : Int32} {p1_lookTimes : Nat → Int32} {p1_lookSizes : Nat → Int32} {p1_lookNumbers : Nat → Int32} {res : Int32 × Int32 × (Nat → Int32) × (Nat → Int32)} (HR : ∀ (pc : Nat) (H : Heap) (locs : List Loc) (ls : Array Slot), decode cX9_seek pc = .ok (.ireturn, 1) → narrow .boolean (.int res.1) = .int res.1 → va_P D vwCl (w_X9_seek K g_t g_p1 res.2.1 res.2.2.1 res.2.2.2 p1_gapCount p1_targetCount p1_lookCount p1_time p1_gone p1_lookTimes p1_lookSizes p1_lookNumbers) H → va_D A (w_X9_seek K g_t g_p1 res.2.1 res.2.2.1 res.2.2.2 p1_gapCount p1_targetCount p1_lookCount p1_time p1_gone p1_lookTimes p1_lookSizes p1_lookNumbers) → va_S A s.heap H locs → W p l e rmX9_seek s m args below meth c H locs 0 0 Q (F0 m pc ls [.int res.1]))  :
    ∀ (n_ : Nat) (t_passed : Int32) (t_lasts : Nat → Int32) (t_path : Nat → Int32) (x2 : Int32) (x3 : Int32) (H : Heap) (locs : List Loc) (ls : Array Slot), va_P D vwCl (w_X9_seek K g_t g_p1 t_passed t_lasts t_path p1_gapCount p1_targetCount p1_lookCount p1_time p1_gone p1_lookTimes p1_lookSizes p1_lookNumbers) H → va_D A (w_X9_seek K g_t g_p1 t_passed t_lasts t_path p1_gapCount p1_targetCount p1_lookCount p1_time p1_gone p1_lookTimes p1_lookSizes p1_lookNumbers) → va_S A s.heap H locs → lv_has ls 4 [(0, .ref (g_t 0)), (1, .ref (g_p1 0)), (2, .int x2), (3, .int x3)] → L_X9_seek_17 p1_lookCount p1_lookTimes p1_lookSizes p1_lookNumbers n_ t_passed t_lasts t_path x2 x3 = some res → W p l e rmX9_seek s m args below meth c H locs 0 0 Q (F0 m 17 ls []) := by
  obtain ⟨⟨hx, hb, hml, hown, hts⟩, hK, -⟩ := id C0
  intro n_
  induction n_ with
  | zero =>
    intro t_passed t_lasts t_path x2 x3 H locs ls hP hD hS hl hF
    exact no_s (show (none : Option (Int32 × Int32 × (Nat → Int32) × (Nat → Int32))) = some res from hF)
  | succ n_ ih =>
    intro t_passed t_lasts t_path x2 x3 H locs ls hP hD hS hl hF
    rw [L_X9_seek_17] at hF
    refine lv_iload_n hx hb dX9_seek_17 rfl (lv_at hl 3 rfl) ?_
    refine lv_aload_n hx hb dX9_seek_18 rfl (lv_at hl 1 rfl) ?_
    refine va_get (D := D) (ci := 5) (v := .ref (g_p1 7)) (C := RX5) (T := TX5) (N := 13) hx hb hts iw_X9_seek_X5 hown hK hP 3 rfl rfl 6 (by decide) (hts _ fl_X9_seek_34) (fun _ h9 => h9) rfl dX9_seek_19 ?_
    refine lv_iconst (v := 0) hx hb dX9_seek_22 (by decide) ?_
    refine xl_i (f := p1_lookSizes) hx hb hK hP 5 0 rfl rfl (k := 0) (by decide) (in_v (by decide)) dX9_seek_23 ?_
    refine lv_icmp_ge (tgt := 56) hx hb dX9_seek_24 (by decide) (fun c_1 => ?_) (fun c_1 => ?_)
    · have hF := it_pos c_1 hF
      refine lv_iconst (v := 0) hx hb dX9_seek_56 (by decide) ?_
      obtain rfl := Option.some.inj hF
      exact HR 57 H locs ls dX9_seek_57 narrow_b0 hP hD hS
    · have hF := it_neg c_1 hF
      refine lv_aload_n hx hb dX9_seek_27 rfl (lv_at hl 0 rfl) ?_
      refine va_get (D := D) (ci := 8) (v := .ref (g_t 2)) (C := RX9) (T := TX9) (N := 3) hx hb hts iw_X9_seek_X9 hown hK hP 0 rfl rfl 1 (by decide) (hts _ fl_X9_seek_15) (fun _ h9 => h9) rfl dX9_seek_28 ?_
      refine lv_iconst (v := 0) hx hb dX9_seek_31 (by decide) ?_
      refine lv_iload_n hx hb dX9_seek_32 rfl (lv_at hl 3 rfl) ?_
      refine xs_i (f := t_path) hx hb hK hP hD hS 2 0 rfl rfl (k := 0) (by decide) (in_v (by decide)) dX9_seek_33 (fun H locs hP hD hS => ?_)
      have hP : va_P D vwCl (w_X9_seek K g_t g_p1 t_passed t_lasts (upd t_path 0 x3) p1_gapCount p1_targetCount p1_lookCount p1_time p1_gone p1_lookTimes p1_lookSizes p1_lookNumbers) H := hP
      have hD : va_D A (w_X9_seek K g_t g_p1 t_passed t_lasts (upd t_path 0 x3) p1_gapCount p1_targetCount p1_lookCount p1_time p1_gone p1_lookTimes p1_lookSizes p1_lookNumbers) := hD
      refine lv_aload_n hx hb dX9_seek_34 rfl (lv_at hl 0 rfl) ?_
      refine lv_aload_n hx hb dX9_seek_35 rfl (lv_at hl 1 rfl) ?_
      obtain ⟨r_2, hc_3, hF⟩ := bn_some hF
      refine xc_v (wn := (w_X9_seek K g_t g_p1 t_passed r_2 (upd t_path 0 x3) p1_gapCount p1_targetCount p1_lookCount p1_time p1_gone p1_lookTimes p1_lookSizes p1_lookNumbers)) hP hD hS C0.2.2.1 [0, 1, 2, 3, 4, 5, 6] [] [0, 1, 2, 3, 4, 5, 6] rfl rfl (by decide) (by decide) rfl (by decide) (va_runV (As := [.ref (g_p1 0)]) (rest := []) C0.1 (c_X9_alignAll l D K g_t g_p1 t_passed t_lasts (upd t_path 0 x3) p1_gapCount p1_targetCount p1_lookCount p1_time p1_gone p1_lookTimes p1_lookSizes p1_lookNumbers r_2 hc_3 H.size) (cwV 1 hts gX9_seek_X9_alignAll rfl rfl rfl (by decide +kernel) ⟨Nat.le_of_ble_eq_true rfl, Nat.le_of_ble_eq_true rfl⟩) (xp_V C0.2 hP hD hS [0, 1, 2, 3, 4, 5, 6] rfl (by decide) 8 0 rfl rfl rfl) rfl rfl hl.1 rfl (lv_room (Nat.le_of_ble_eq_true rfl)) dX9_seek_36 ⟨Nat.le_of_ble_eq_true rfl, Nat.le_of_ble_eq_true rfl⟩) (fun H locs hP hD hS => ?_)
      refine lv_aload_n hx hb dX9_seek_39 rfl (lv_at hl 0 rfl) ?_
      refine lv_aload_n hx hb dX9_seek_40 rfl (lv_at hl 1 rfl) ?_
      refine lv_iload_n hx hb dX9_seek_41 rfl (lv_at hl 2 rfl) ?_
      obtain ⟨r_4, hc_5, hF⟩ := bn_some hF
      refine xc_i (wn := (w_X9_seek K g_t g_p1 r_4.2.1 r_2 r_4.2.2 p1_gapCount p1_targetCount p1_lookCount p1_time p1_gone p1_lookTimes p1_lookSizes p1_lookNumbers)) hP hD hS C0.2.2.1 [0, 1, 2, 3, 5] [4, 6] [2, 3, 4, 5, 0, 6, 1] rfl rfl (by decide) (by decide) rfl (by decide) (va_runV (As := [.ref (g_p1 0), .int x2]) (rest := []) C0.1 (c_X9_seekMiddle l D K g_t g_p1 t_passed r_2 (upd t_path 0 x3) p1_gapCount p1_targetCount p1_lookCount p1_time p1_gone p1_lookSizes x2 r_4 hc_5 H.size) (cwV 2 hts gX9_seek_X9_seekMiddle rfl rfl rfl (by decide +kernel) ⟨Nat.le_of_ble_eq_true rfl, Nat.le_of_ble_eq_true rfl⟩) (xp_V C0.2 hP hD hS [0, 1, 2, 3, 5] rfl (by decide) 8 0 rfl rfl rfl) rfl rfl hl.1 rfl (lv_room (Nat.le_of_ble_eq_true rfl)) dX9_seek_42 ⟨Nat.le_of_ble_eq_true rfl, Nat.le_of_ble_eq_true rfl⟩) (fun H locs hP hD hS => ?_)
      refine lv_if_eq (tgt := 50) hx hb dX9_seek_45 (by decide) (fun c_6 => ?_) (fun c_6 => ?_)
      · have hF := it_pos c_6 hF
        refine lv_iinc (v := (x3 + (1 : Int32))) (lv' := [(3, .int (x3 + (1 : Int32))), (0, .ref (g_t 0)), (1, .ref (g_p1 0)), (2, .int x2)]) hx hb dX9_seek_50 hl (k := 3) rfl (congrArg (fun z => x3 + z) (by decide)) (by decide) rfl (fun ls hl => ?_)
        refine lv_goto (tgt := 17) hx hb dX9_seek_53 (by decide) ?_
        exact ih r_4.2.1 r_2 r_4.2.2 x2 (x3 + (1 : Int32)) H locs ls hP hD hS (lv_sub hl [1, 2, 3, 0] rfl) hF
      · have hF := it_neg c_6 hF
        refine lv_iconst (v := 1) hx hb dX9_seek_48 (by decide) ?_
        obtain rfl := Option.some.inj hF
        exact HR 49 H locs ls dX9_seek_49 narrow_b1 hP hD hS
def F_X9_seek (t_passed : Int32) (t_lasts : Nat → Int32) (t_path : Nat → Int32) (p1_lookCount : Int32) (p1_lookTimes : Nat → Int32) (p1_lookSizes : Nat → Int32) (p1_lookNumbers : Nat → Int32) (x2 : Int32) : Option (Int32 × Int32 × (Nat → Int32) × (Nat → Int32)) :=
  if (2 : Int32) ≤ p1_lookCount then (L_X9_seek_17 p1_lookCount p1_lookTimes p1_lookSizes p1_lookNumbers fu_ (0 : Int32) t_lasts t_path x2 (0 : Int32)) else (some ((0 : Int32), (0 : Int32), t_lasts, t_path))
set_option maxHeartbeats 4000000 in
set_option maxRecDepth 100000 in
theorem c_X9_seek (l : Launch) (D : va_G) (K : Nat → ClassId) (g_t : Nat → Nat) (g_p1 : Nat → Nat) (t_passed : Int32) (t_lasts : Nat → Int32) (t_path : Nat → Int32) (p1_gapCount : Int32) (p1_targetCount : Int32) (p1_lookCount : Int32) (p1_time : Int32) (p1_gone : Int32) (p1_lookTimes : Nat → Int32) (p1_lookSizes : Nat → Int32) (p1_lookNumbers : Nat → Int32) (x2 : Int32) (res : Int32 × Int32 × (Nat → Int32) × (Nat → Int32)) (hF : F_X9_seek t_passed t_lasts t_path p1_lookCount p1_lookTimes p1_lookSizes p1_lookNumbers x2 = some res) :
    Mi_ l yX9_seek wsX9_seek rmX9_seek D K [.ref (g_t 0), .ref (g_p1 0), .int x2] (w_X9_seek K g_t g_p1 t_passed t_lasts t_path p1_gapCount p1_targetCount p1_lookCount p1_time p1_gone p1_lookTimes p1_lookSizes p1_lookNumbers) (w_X9_seek K g_t g_p1 res.2.1 res.2.2.1 res.2.2.2 p1_gapCount p1_targetCount p1_lookCount p1_time p1_gone p1_lookTimes p1_lookSizes p1_lookNumbers) (res.1) := by
  refine en_z (cc := cX9_seek) (maxL := 4) (own := RX9) (by decide) rfl rfl (Nat.le_of_ble_eq_true rfl) ?_
  intro p e s m args below meth c A Q H locs ls C0 hP hD hS hl HR
  obtain ⟨⟨hx, hb, hml, hown, hts⟩, hK, -⟩ := id C0
  have hl : lv_has ls 4 [(0, .ref (g_t 0)), (1, .ref (g_p1 0)), (2, .int x2)] := hl
  unfold F_X9_seek at hF
  refine lv_aload_n hx hb dX9_seek_0 rfl (lv_at hl 0 rfl) ?_
  refine lv_iconst (v := 0) hx hb dX9_seek_1 (by decide) ?_
  refine va_put (D := D) (ci := 8) (v := .int (0 : Int32)) (ty := .int) (C := RX9) (T := TX9) (N := 3) hx hb hts iw_X9_seek_X9 tyX9 tyX9_ok nmX9 hown hK hP hD hS 0 rfl rfl 2 (by decide) (hts _ fl_X9_seek_25) (fun _ h9 => h9) rfl (by decide +kernel) rfl rfl (Nat.le_of_ble_eq_true rfl) dX9_seek_2 (fun H locs hP hD hS => ?_)
  have hP : va_P D vwCl (w_X9_seek K g_t g_p1 (0 : Int32) t_lasts t_path p1_gapCount p1_targetCount p1_lookCount p1_time p1_gone p1_lookTimes p1_lookSizes p1_lookNumbers) H := hP
  have hD : va_D A (w_X9_seek K g_t g_p1 (0 : Int32) t_lasts t_path p1_gapCount p1_targetCount p1_lookCount p1_time p1_gone p1_lookTimes p1_lookSizes p1_lookNumbers) := hD
  refine lv_aload_n hx hb dX9_seek_5 rfl (lv_at hl 1 rfl) ?_
  refine va_get (D := D) (ci := 5) (v := .int p1_lookCount) (C := RX5) (T := TX5) (N := 13) hx hb hts iw_X9_seek_X5 hown hK hP 3 rfl rfl 10 (by decide) (hts _ fl_X9_seek_29) (fun _ h9 => h9) rfl dX9_seek_6 ?_
  refine lv_iconst (v := 2) hx hb dX9_seek_9 (by decide) ?_
  refine lv_icmp_ge (tgt := 15) hx hb dX9_seek_10 (by decide) (fun c_1 => ?_) (fun c_1 => ?_)
  · have hF := it_pos c_1 hF
    refine lv_iconst (v := 0) hx hb dX9_seek_15 (by decide) ?_
    refine lv_istore_n (lv' := [(3, .int (0 : Int32)), (0, .ref (g_t 0)), (1, .ref (g_p1 0)), (2, .int x2)]) hx hb dX9_seek_16 rfl hl (by decide) rfl (fun ls hl => ?_)
    exact w_X9_seek_17 C0 HR fu_ (0 : Int32) t_lasts t_path x2 (0 : Int32) H locs ls hP hD hS (lv_sub hl [1, 2, 3, 0] rfl) hF
  · have hF := it_neg c_1 hF
    refine lv_iconst (v := 0) hx hb dX9_seek_13 (by decide) ?_
    obtain rfl := Option.some.inj hF
    exact HR 14 H locs ls dX9_seek_14 narrow_b0 hP hD hS

/-! StaggerRadar.Tracks.countAll(LStaggerRadar$Radar;)I -/
abbrev rmX9_countAll : Room := { frames := 4, cells := 0, slots := 0, locals := 103 }
theorem fl_X9_countAll_25 : Cond.fieldLink RX9 25 "StaggerRadar$Tracks" "passed" "I" ∈ wsX9_countAll := by decide +kernel
theorem ld_X9_countAll_20 : Cond.constant RX9 20 (2147483647) ∈ wsX9_countAll := by decide +kernel
theorem iw_X9_countAll_X5 : ∀ w ∈ u_ws RX5 TX5 13, w ∈ wsX9_countAll := by decide +kernel
theorem iw_X9_countAll_X9 : ∀ w ∈ u_ws RX9 TX9 3, w ∈ wsX9_countAll := by decide +kernel
abbrev w_X9_countAll (K : Nat → ClassId) (g_t : Nat → Nat) (g_p1 : Nat → Nat) (t_passed : Int32) (t_lasts : Nat → Int32) (t_path : Nat → Int32) (p1_gapCount : Int32) (p1_targetCount : Int32) (p1_lookCount : Int32) (p1_time : Int32) (p1_gone : Int32) (p1_lookTimes : Nat → Int32) (p1_lookSizes : Nat → Int32) (p1_lookNumbers : Nat → Int32) : va_W := [((g_t 0), .inr (8, [.ref (g_t 1), .ref (g_t 2), .int t_passed])), ((g_t 1), .inl (K 0, 48, .inl t_lasts)), ((g_t 2), .inl (K 0, 4, .inl t_path)), ((g_p1 0), .inr (5, [.ref (g_p1 1), .ref (g_p1 2), .ref (g_p1 3), .ref (g_p1 4), .ref (g_p1 5), .ref (g_p1 6), .ref (g_p1 7), .ref (g_p1 8), .int p1_gapCount, .int p1_targetCount, .int p1_lookCount, .int p1_time, .int p1_gone])), ((g_p1 6), .inl (K 0, 4, .inl p1_lookTimes)), ((g_p1 7), .inl (K 0, 4, .inl p1_lookSizes)), ((g_p1 8), .inl (K 0, 48, .inl p1_lookNumbers))]
def F_X9_countAll (t_passed : Int32) (t_lasts : Nat → Int32) (t_path : Nat → Int32) (p1_lookCount : Int32) (p1_lookTimes : Nat → Int32) (p1_lookSizes : Nat → Int32) (p1_lookNumbers : Nat → Int32) : Option (Int32 × Int32 × (Nat → Int32) × (Nat → Int32)) :=
  (F_X9_seek t_passed t_lasts t_path p1_lookCount p1_lookTimes p1_lookSizes p1_lookNumbers (2147483647 : Int32)).bind fun r_1 => (if r_1.1 = (0 : Int32) then (some (r_1.2.1, r_1.2.1, r_1.2.2.1, r_1.2.2.2)) else (some ((0 : Int32), r_1.2.1, r_1.2.2.1, r_1.2.2.2)))
set_option maxHeartbeats 4000000 in
set_option maxRecDepth 100000 in
theorem c_X9_countAll (l : Launch) (D : va_G) (K : Nat → ClassId) (g_t : Nat → Nat) (g_p1 : Nat → Nat) (t_passed : Int32) (t_lasts : Nat → Int32) (t_path : Nat → Int32) (p1_gapCount : Int32) (p1_targetCount : Int32) (p1_lookCount : Int32) (p1_time : Int32) (p1_gone : Int32) (p1_lookTimes : Nat → Int32) (p1_lookSizes : Nat → Int32) (p1_lookNumbers : Nat → Int32) (res : Int32 × Int32 × (Nat → Int32) × (Nat → Int32)) (hF : F_X9_countAll t_passed t_lasts t_path p1_lookCount p1_lookTimes p1_lookSizes p1_lookNumbers = some res) :
    Mi_ l yX9_countAll wsX9_countAll rmX9_countAll D K [.ref (g_t 0), .ref (g_p1 0)] (w_X9_countAll K g_t g_p1 t_passed t_lasts t_path p1_gapCount p1_targetCount p1_lookCount p1_time p1_gone p1_lookTimes p1_lookSizes p1_lookNumbers) (w_X9_countAll K g_t g_p1 res.2.1 res.2.2.1 res.2.2.2 p1_gapCount p1_targetCount p1_lookCount p1_time p1_gone p1_lookTimes p1_lookSizes p1_lookNumbers) (res.1) := by
  refine en_i (cc := cX9_countAll) (maxL := 2) (own := RX9) (by decide) rfl rfl (Nat.le_of_ble_eq_true rfl) ?_
  intro p e s m args below meth c A Q H locs ls C0 hP hD hS hl HR
  obtain ⟨⟨hx, hb, hml, hown, hts⟩, hK, -⟩ := id C0
  have hl : lv_has ls 2 [(0, .ref (g_t 0)), (1, .ref (g_p1 0))] := hl
  unfold F_X9_countAll at hF
  refine lv_aload_n hx hb dX9_countAll_0 rfl (lv_at hl 0 rfl) ?_
  refine lv_aload_n hx hb dX9_countAll_1 rfl (lv_at hl 1 rfl) ?_
  refine lv_ldc (v := 2147483647) hx hb hown (hts _ ld_X9_countAll_20) dX9_countAll_2 ?_
  obtain ⟨r_1, hc_2, hF⟩ := bn_some hF
  refine xc_i (wn := (w_X9_countAll K g_t g_p1 r_1.2.1 r_1.2.2.1 r_1.2.2.2 p1_gapCount p1_targetCount p1_lookCount p1_time p1_gone p1_lookTimes p1_lookSizes p1_lookNumbers)) hP hD hS C0.2.2.1 [0, 1, 2, 3, 4, 5, 6] [] [0, 1, 2, 3, 4, 5, 6] rfl rfl (by decide) (by decide) rfl (by decide) (va_runV (As := [.ref (g_p1 0), .int (2147483647 : Int32)]) (rest := []) C0.1 (c_X9_seek l D K g_t g_p1 t_passed t_lasts t_path p1_gapCount p1_targetCount p1_lookCount p1_time p1_gone p1_lookTimes p1_lookSizes p1_lookNumbers (2147483647 : Int32) r_1 hc_2 H.size) (cwV 2 hts gX9_countAll_X9_seek rfl rfl rfl (by decide +kernel) ⟨Nat.le_of_ble_eq_true rfl, Nat.le_of_ble_eq_true rfl⟩) (xp_V C0.2 hP hD hS [0, 1, 2, 3, 4, 5, 6] rfl (by decide) 8 0 rfl rfl rfl) rfl rfl hl.1 rfl (lv_room (Nat.le_of_ble_eq_true rfl)) dX9_countAll_4 ⟨Nat.le_of_ble_eq_true rfl, Nat.le_of_ble_eq_true rfl⟩) (fun H locs hP hD hS => ?_)
  refine lv_if_eq (tgt := 14) hx hb dX9_countAll_7 (by decide) (fun c_3 => ?_) (fun c_3 => ?_)
  · have hF := it_pos c_3 hF
    refine lv_aload_n hx hb dX9_countAll_14 rfl (lv_at hl 0 rfl) ?_
    refine va_get (D := D) (ci := 8) (v := .int r_1.2.1) (C := RX9) (T := TX9) (N := 3) hx hb hts iw_X9_countAll_X9 hown hK hP 0 rfl rfl 2 (by decide) (hts _ fl_X9_countAll_25) (fun _ h9 => h9) rfl dX9_countAll_15 ?_
    obtain rfl := Option.some.inj hF
    exact HR 18 H locs ls dX9_countAll_18 hP hD hS
  · have hF := it_neg c_3 hF
    refine lv_iconst (v := 0) hx hb dX9_countAll_10 (by decide) ?_
    refine lv_goto (tgt := 18) hx hb dX9_countAll_11 (by decide) ?_
    obtain rfl := Option.some.inj hF
    exact HR 18 H locs ls dX9_countAll_18 hP hD hS

/-! StaggerRadar.Tracks.numberIn(LStaggerRadar$Radar;I)I -/
abbrev rmX9_numberIn : Room := { frames := 1, cells := 0, slots := 0, locals := 22 }
theorem fl_X9_numberIn_15 : Cond.fieldLink RX9 15 "StaggerRadar$Tracks" "path" "[I" ∈ wsX9_numberIn := by decide +kernel
theorem iw_X9_numberIn_X5 : ∀ w ∈ u_ws RX5 TX5 13, w ∈ wsX9_numberIn := by decide +kernel
theorem iw_X9_numberIn_X9 : ∀ w ∈ u_ws RX9 TX9 3, w ∈ wsX9_numberIn := by decide +kernel
abbrev w_X9_numberIn (K : Nat → ClassId) (g_t : Nat → Nat) (g_p1 : Nat → Nat) (t_passed : Int32) (t_path : Nat → Int32) (p1_gapCount : Int32) (p1_targetCount : Int32) (p1_lookCount : Int32) (p1_time : Int32) (p1_gone : Int32) (p1_lookNumbers : Nat → Int32) : va_W := [((g_t 0), .inr (8, [.ref (g_t 1), .ref (g_t 2), .int t_passed])), ((g_t 2), .inl (K 0, 4, .inl t_path)), ((g_p1 0), .inr (5, [.ref (g_p1 1), .ref (g_p1 2), .ref (g_p1 3), .ref (g_p1 4), .ref (g_p1 5), .ref (g_p1 6), .ref (g_p1 7), .ref (g_p1 8), .int p1_gapCount, .int p1_targetCount, .int p1_lookCount, .int p1_time, .int p1_gone])), ((g_p1 8), .inl (K 0, 48, .inl p1_lookNumbers))]
def F_X9_numberIn (t_path : Nat → Int32) (p1_lookNumbers : Nat → Int32) (x2 : Int32) : Option (Int32) :=
  gd_ (in_b x2 4) ((F_X9_numberAt p1_lookNumbers x2 (t_path (x2).toNatClampNeg)).bind fun r_2 => (some r_2))
set_option maxHeartbeats 4000000 in
set_option maxRecDepth 100000 in
theorem c_X9_numberIn (l : Launch) (D : va_G) (K : Nat → ClassId) (g_t : Nat → Nat) (g_p1 : Nat → Nat) (t_passed : Int32) (t_path : Nat → Int32) (p1_gapCount : Int32) (p1_targetCount : Int32) (p1_lookCount : Int32) (p1_time : Int32) (p1_gone : Int32) (p1_lookNumbers : Nat → Int32) (x2 : Int32) (res : Int32) (hF : F_X9_numberIn t_path p1_lookNumbers x2 = some res) :
    Mi_ l yX9_numberIn wsX9_numberIn rmX9_numberIn D K [.ref (g_t 0), .ref (g_p1 0), .int x2] (w_X9_numberIn K g_t g_p1 t_passed t_path p1_gapCount p1_targetCount p1_lookCount p1_time p1_gone p1_lookNumbers) (w_X9_numberIn K g_t g_p1 t_passed t_path p1_gapCount p1_targetCount p1_lookCount p1_time p1_gone p1_lookNumbers) (res) := by
  refine en_i (cc := cX9_numberIn) (maxL := 3) (own := RX9) (by decide) rfl rfl (Nat.le_of_ble_eq_true rfl) ?_
  intro p e s m args below meth c A Q H locs ls C0 hP hD hS hl HR
  obtain ⟨⟨hx, hb, hml, hown, hts⟩, hK, -⟩ := id C0
  have hl : lv_has ls 3 [(0, .ref (g_t 0)), (1, .ref (g_p1 0)), (2, .int x2)] := hl
  unfold F_X9_numberIn at hF
  refine lv_aload_n hx hb dX9_numberIn_0 rfl (lv_at hl 1 rfl) ?_
  refine lv_iload_n hx hb dX9_numberIn_1 rfl (lv_at hl 2 rfl) ?_
  refine lv_aload_n hx hb dX9_numberIn_2 rfl (lv_at hl 0 rfl) ?_
  refine va_get (D := D) (ci := 8) (v := .ref (g_t 2)) (C := RX9) (T := TX9) (N := 3) hx hb hts iw_X9_numberIn_X9 hown hK hP 0 rfl rfl 1 (by decide) (hts _ fl_X9_numberIn_15) (fun _ h9 => h9) rfl dX9_numberIn_3 ?_
  refine lv_iload_n hx hb dX9_numberIn_6 rfl (lv_at hl 2 rfl) ?_
  obtain ⟨hg_1, hF⟩ := gd_some hF
  refine xl_i (f := t_path) hx hb hK hP 1 0 rfl rfl rfl (in_v hg_1) dX9_numberIn_7 ?_
  obtain ⟨r_2, hc_3, hF⟩ := bn_some hF
  refine xc_i (wn := (w_X9_numberIn K g_t g_p1 t_passed t_path p1_gapCount p1_targetCount p1_lookCount p1_time p1_gone p1_lookNumbers)) hP hD hS C0.2.2.1 [2, 3] [0, 1] [0, 1, 2, 3] rfl rfl (by decide) (by decide) rfl (by decide) (va_runS (As := [.ref (g_p1 0), .int x2, .int (t_path (x2).toNatClampNeg)]) (rest := []) C0.1 (c_X9_numberAt l D K g_p1 p1_gapCount p1_targetCount p1_lookCount p1_time p1_gone p1_lookNumbers x2 (t_path (x2).toNatClampNeg) r_2 hc_3 H.size) (va_cwS 3 hts gX9_numberIn_X9_numberAt rfl rfl rfl (by decide +kernel) ⟨Nat.le_of_ble_eq_true rfl, Nat.le_of_ble_eq_true rfl⟩) (xp_S C0.2 hP hD hS [2, 3] rfl (by decide)) rfl rfl hl.1 rfl (lv_room (Nat.le_of_ble_eq_true rfl)) dX9_numberIn_8 ⟨Nat.le_of_ble_eq_true rfl, Nat.le_of_ble_eq_true rfl⟩) (fun H locs hP hD hS => ?_)
  obtain rfl := Option.some.inj hF
  exact HR 11 H locs ls dX9_numberIn_11 hP hD hS

/-! StaggerRadar.Tracks.paceOf(LStaggerRadar$Radar;)I -/
abbrev rmX9_paceOf : Room := { frames := 2, cells := 0, slots := 0, locals := 44 }
theorem fl_X9_paceOf_29 : Cond.fieldLink RX9 29 "StaggerRadar$Radar" "lookCount" "I" ∈ wsX9_paceOf := by decide +kernel
theorem fl_X9_paceOf_59 : Cond.fieldLink RX9 59 "StaggerRadar$Radar" "lookTimes" "[I" ∈ wsX9_paceOf := by decide +kernel
theorem iw_X9_paceOf_X5 : ∀ w ∈ u_ws RX5 TX5 13, w ∈ wsX9_paceOf := by decide +kernel
theorem iw_X9_paceOf_X9 : ∀ w ∈ u_ws RX9 TX9 3, w ∈ wsX9_paceOf := by decide +kernel
abbrev w_X9_paceOf (K : Nat → ClassId) (g_t : Nat → Nat) (g_p1 : Nat → Nat) (t_passed : Int32) (t_path : Nat → Int32) (p1_gapCount : Int32) (p1_targetCount : Int32) (p1_lookCount : Int32) (p1_time : Int32) (p1_gone : Int32) (p1_lookTimes : Nat → Int32) (p1_lookNumbers : Nat → Int32) : va_W := [((g_t 0), .inr (8, [.ref (g_t 1), .ref (g_t 2), .int t_passed])), ((g_t 2), .inl (K 0, 4, .inl t_path)), ((g_p1 0), .inr (5, [.ref (g_p1 1), .ref (g_p1 2), .ref (g_p1 3), .ref (g_p1 4), .ref (g_p1 5), .ref (g_p1 6), .ref (g_p1 7), .ref (g_p1 8), .int p1_gapCount, .int p1_targetCount, .int p1_lookCount, .int p1_time, .int p1_gone])), ((g_p1 6), .inl (K 0, 4, .inl p1_lookTimes)), ((g_p1 8), .inl (K 0, 48, .inl p1_lookNumbers))]
def F_X9_paceOf (t_path : Nat → Int32) (p1_lookCount : Int32) (p1_lookTimes : Nat → Int32) (p1_lookNumbers : Nat → Int32) : Option (Int32) :=
  gd_ (in_b (p1_lookCount - (1 : Int32)) 4) ((F_X9_numberIn t_path p1_lookNumbers (p1_lookCount - (1 : Int32))).bind fun r_2 => ((F_X9_numberIn t_path p1_lookNumbers (0 : Int32)).bind fun r_4 => (if ((p1_lookTimes (p1_lookCount - (1 : Int32)).toNatClampNeg) - (p1_lookTimes 0)) ≤ (0 : Int32) then (some (0 : Int32)) else (gd_ (decide (¬ ((p1_lookTimes (p1_lookCount - (1 : Int32)).toNatClampNeg) - (p1_lookTimes 0)) = 0)) (some (((16 : Int32) * (r_2 - r_4)) / ((p1_lookTimes (p1_lookCount - (1 : Int32)).toNatClampNeg) - (p1_lookTimes 0))))))))
set_option maxHeartbeats 4000000 in
set_option maxRecDepth 100000 in
theorem c_X9_paceOf (l : Launch) (D : va_G) (K : Nat → ClassId) (g_t : Nat → Nat) (g_p1 : Nat → Nat) (t_passed : Int32) (t_path : Nat → Int32) (p1_gapCount : Int32) (p1_targetCount : Int32) (p1_lookCount : Int32) (p1_time : Int32) (p1_gone : Int32) (p1_lookTimes : Nat → Int32) (p1_lookNumbers : Nat → Int32) (res : Int32) (hF : F_X9_paceOf t_path p1_lookCount p1_lookTimes p1_lookNumbers = some res) :
    Mi_ l yX9_paceOf wsX9_paceOf rmX9_paceOf D K [.ref (g_t 0), .ref (g_p1 0)] (w_X9_paceOf K g_t g_p1 t_passed t_path p1_gapCount p1_targetCount p1_lookCount p1_time p1_gone p1_lookTimes p1_lookNumbers) (w_X9_paceOf K g_t g_p1 t_passed t_path p1_gapCount p1_targetCount p1_lookCount p1_time p1_gone p1_lookTimes p1_lookNumbers) (res) := by
  refine en_i (cc := cX9_paceOf) (maxL := 5) (own := RX9) (by decide) rfl rfl (Nat.le_of_ble_eq_true rfl) ?_
  intro p e s m args below meth c A Q H locs ls C0 hP hD hS hl HR
  obtain ⟨⟨hx, hb, hml, hown, hts⟩, hK, -⟩ := id C0
  have hl : lv_has ls 5 [(0, .ref (g_t 0)), (1, .ref (g_p1 0))] := hl
  unfold F_X9_paceOf at hF
  refine lv_aload_n hx hb dX9_paceOf_0 rfl (lv_at hl 1 rfl) ?_
  refine va_get (D := D) (ci := 5) (v := .int p1_lookCount) (C := RX5) (T := TX5) (N := 13) hx hb hts iw_X9_paceOf_X5 hown hK hP 2 rfl rfl 10 (by decide) (hts _ fl_X9_paceOf_29) (fun _ h9 => h9) rfl dX9_paceOf_1 ?_
  refine lv_iconst (v := 1) hx hb dX9_paceOf_4 (by decide) ?_
  refine lv_isub hx hb dX9_paceOf_5 ?_
  refine lv_istore_n (lv' := [(2, .int (p1_lookCount - (1 : Int32))), (0, .ref (g_t 0)), (1, .ref (g_p1 0))]) hx hb dX9_paceOf_6 rfl hl (by decide) rfl (fun ls hl => ?_)
  refine lv_aload_n hx hb dX9_paceOf_7 rfl (lv_at hl 2 rfl) ?_
  refine va_get (D := D) (ci := 5) (v := .ref (g_p1 6)) (C := RX5) (T := TX5) (N := 13) hx hb hts iw_X9_paceOf_X5 hown hK hP 2 rfl rfl 5 (by decide) (hts _ fl_X9_paceOf_59) (fun _ h9 => h9) rfl dX9_paceOf_8 ?_
  refine lv_iload_n hx hb dX9_paceOf_11 rfl (lv_at hl 0 rfl) ?_
  obtain ⟨hg_1, hF⟩ := gd_some hF
  refine xl_i (f := p1_lookTimes) hx hb hK hP 3 0 rfl rfl rfl (in_v hg_1) dX9_paceOf_12 ?_
  refine lv_aload_n hx hb dX9_paceOf_13 rfl (lv_at hl 2 rfl) ?_
  refine va_get (D := D) (ci := 5) (v := .ref (g_p1 6)) (C := RX5) (T := TX5) (N := 13) hx hb hts iw_X9_paceOf_X5 hown hK hP 2 rfl rfl 5 (by decide) (hts _ fl_X9_paceOf_59) (fun _ h9 => h9) rfl dX9_paceOf_14 ?_
  refine lv_iconst (v := 0) hx hb dX9_paceOf_17 (by decide) ?_
  refine xl_i (f := p1_lookTimes) hx hb hK hP 3 0 rfl rfl (k := 0) (by decide) (in_v (by decide)) dX9_paceOf_18 ?_
  refine lv_isub hx hb dX9_paceOf_19 ?_
  refine lv_istore_n (lv' := [(3, .int ((p1_lookTimes (p1_lookCount - (1 : Int32)).toNatClampNeg) - (p1_lookTimes 0))), (2, .int (p1_lookCount - (1 : Int32))), (0, .ref (g_t 0)), (1, .ref (g_p1 0))]) hx hb dX9_paceOf_20 rfl hl (by decide) rfl (fun ls hl => ?_)
  refine lv_aload_n hx hb dX9_paceOf_21 rfl (lv_at hl 2 rfl) ?_
  refine lv_aload_n hx hb dX9_paceOf_22 rfl (lv_at hl 3 rfl) ?_
  refine lv_iload_n hx hb dX9_paceOf_23 rfl (lv_at hl 1 rfl) ?_
  obtain ⟨r_2, hc_3, hF⟩ := bn_some hF
  refine xc_i (wn := (w_X9_paceOf K g_t g_p1 t_passed t_path p1_gapCount p1_targetCount p1_lookCount p1_time p1_gone p1_lookTimes p1_lookNumbers)) hP hD hS C0.2.2.1 [0, 1, 2, 4] [3] [1, 2, 3, 0, 4] rfl rfl (by decide) (by decide) rfl (by decide) (va_runV (As := [.ref (g_p1 0), .int (p1_lookCount - (1 : Int32))]) (rest := []) C0.1 (c_X9_numberIn l D K g_t g_p1 t_passed t_path p1_gapCount p1_targetCount p1_lookCount p1_time p1_gone p1_lookNumbers (p1_lookCount - (1 : Int32)) r_2 hc_3 H.size) (cwV 2 hts gX9_paceOf_X9_numberIn rfl rfl rfl (by decide +kernel) ⟨Nat.le_of_ble_eq_true rfl, Nat.le_of_ble_eq_true rfl⟩) (xp_V C0.2 hP hD hS [0, 1, 2, 4] rfl (by decide) 8 0 rfl rfl rfl) rfl rfl hl.1 rfl (lv_room (Nat.le_of_ble_eq_true rfl)) dX9_paceOf_24 ⟨Nat.le_of_ble_eq_true rfl, Nat.le_of_ble_eq_true rfl⟩) (fun H locs hP hD hS => ?_)
  refine lv_aload_n hx hb dX9_paceOf_27 rfl (lv_at hl 2 rfl) ?_
  refine lv_aload_n hx hb dX9_paceOf_28 rfl (lv_at hl 3 rfl) ?_
  refine lv_iconst (v := 0) hx hb dX9_paceOf_29 (by decide) ?_
  obtain ⟨r_4, hc_5, hF⟩ := bn_some hF
  refine xc_i (wn := (w_X9_paceOf K g_t g_p1 t_passed t_path p1_gapCount p1_targetCount p1_lookCount p1_time p1_gone p1_lookTimes p1_lookNumbers)) hP hD hS C0.2.2.1 [0, 1, 2, 4] [3] [1, 2, 3, 0, 4] rfl rfl (by decide) (by decide) rfl (by decide) (va_runV (As := [.ref (g_p1 0), .int (0 : Int32)]) (rest := [.int r_2]) C0.1 (c_X9_numberIn l D K g_t g_p1 t_passed t_path p1_gapCount p1_targetCount p1_lookCount p1_time p1_gone p1_lookNumbers (0 : Int32) r_4 hc_5 H.size) (cwV 2 hts gX9_paceOf_X9_numberIn rfl rfl rfl (by decide +kernel) ⟨Nat.le_of_ble_eq_true rfl, Nat.le_of_ble_eq_true rfl⟩) (xp_V C0.2 hP hD hS [0, 1, 2, 4] rfl (by decide) 8 0 rfl rfl rfl) rfl rfl hl.1 rfl (lv_room (Nat.le_of_ble_eq_true rfl)) dX9_paceOf_30 ⟨Nat.le_of_ble_eq_true rfl, Nat.le_of_ble_eq_true rfl⟩) (fun H locs hP hD hS => ?_)
  refine lv_isub hx hb dX9_paceOf_33 ?_
  refine lv_istore (lv' := [(4, .int (r_2 - r_4)), (3, .int ((p1_lookTimes (p1_lookCount - (1 : Int32)).toNatClampNeg) - (p1_lookTimes 0))), (2, .int (p1_lookCount - (1 : Int32))), (0, .ref (g_t 0)), (1, .ref (g_p1 0))]) hx hb dX9_paceOf_34 hl (by decide) rfl (fun ls hl => ?_)
  refine lv_iload_n hx hb dX9_paceOf_36 rfl (lv_at hl 1 rfl) ?_
  refine lv_if_le (tgt := 50) hx hb dX9_paceOf_37 (by decide) (fun c_6 => ?_) (fun c_6 => ?_)
  · have hF := it_pos c_6 hF
    refine lv_iconst (v := 0) hx hb dX9_paceOf_50 (by decide) ?_
    obtain rfl := Option.some.inj hF
    exact HR 51 H locs ls dX9_paceOf_51 hP hD hS
  · have hF := it_neg c_6 hF
    refine lv_bipush (v := 16) hx hb dX9_paceOf_40 (by decide) ?_
    refine lv_iload hx hb dX9_paceOf_42 (lv_at hl 0 rfl) ?_
    refine lv_imul hx hb dX9_paceOf_44 ?_
    refine lv_iload_n hx hb dX9_paceOf_45 rfl (lv_at hl 1 rfl) ?_
    obtain ⟨hg_7, hF⟩ := gd_some hF
    refine lv_idiv hx hb dX9_paceOf_46 (ne_of hg_7) ?_
    refine lv_goto (tgt := 51) hx hb dX9_paceOf_47 (by decide) ?_
    obtain rfl := Option.some.inj hF
    exact HR 51 H locs ls dX9_paceOf_51 hP hD hS

/-! StaggerRadar.track(II)I -/
abbrev rmX10_track : Room := { frames := 5, cells := 0, slots := 0, locals := 124 }
theorem fl_X10_track_10 : Cond.fieldLink RX10 10 "StaggerRadar" "radar" "LStaggerRadar$Radar;" ∈ wsX10_track := by decide +kernel
theorem fl_X10_track_62 : Cond.fieldLink RX10 62 "StaggerRadar" "tracks" "LStaggerRadar$Tracks;" ∈ wsX10_track := by decide +kernel
theorem fl_X10_track_178 : Cond.fieldLink RX10 178 "StaggerRadar$Radar" "lookCount" "I" ∈ wsX10_track := by decide +kernel
theorem ld_X10_track_317 : Cond.constant RX10 317 (-100000) ∈ wsX10_track := by decide +kernel
theorem iw_X10_track_X10 : ∀ w ∈ u_ws RX10 TX10 14, w ∈ wsX10_track := by decide +kernel
theorem iw_X10_track_X5 : ∀ w ∈ u_ws RX5 TX5 13, w ∈ wsX10_track := by decide +kernel
theorem iw_X10_track_X9 : ∀ w ∈ u_ws RX9 TX9 3, w ∈ wsX10_track := by decide +kernel
abbrev w_X10_track (K : Nat → ClassId) (g_t : Nat → Nat) (g_t_radar : Nat → Nat) (g_t_draft : Nat → Nat) (g_t_text : Nat → Nat) (g_t_reader : Nat → Nat) (g_t_history : Nat → Nat) (g_t_echoes : Nat → Nat) (g_t_tracks : Nat → Nat) (g_t_dwelling : Nat → Nat) (g_t_chooser : Nat → Nat) (g_t_adviser : Nat → Nat) (t_radar_gapCount : Int32) (t_radar_targetCount : Int32) (t_radar_lookCount : Int32) (t_radar_time : Int32) (t_radar_gone : Int32) (t_radar_lookTimes : Nat → Int32) (t_radar_lookSizes : Nat → Int32) (t_radar_lookNumbers : Nat → Int32) (t_tracks_passed : Int32) (t_tracks_lasts : Nat → Int32) (t_tracks_path : Nat → Int32) : va_W := [((g_t 0), .inr (9, [.ref (g_t_radar 0), .ref (g_t_draft 0), .ref (g_t_text 0), .ref (g_t_reader 0), .ref (g_t_history 0), .ref (g_t 6), .ref (g_t 7), .ref (g_t 8), .ref (g_t_echoes 0), .ref (g_t_tracks 0), .ref (g_t_dwelling 0), .ref (g_t_chooser 0), .ref (g_t_adviser 0), .ref (g_t 14)])), ((g_t_radar 0), .inr (5, [.ref (g_t_radar 1), .ref (g_t_radar 2), .ref (g_t_radar 3), .ref (g_t_radar 4), .ref (g_t_radar 5), .ref (g_t_radar 6), .ref (g_t_radar 7), .ref (g_t_radar 8), .int t_radar_gapCount, .int t_radar_targetCount, .int t_radar_lookCount, .int t_radar_time, .int t_radar_gone])), ((g_t_radar 6), .inl (K 0, 4, .inl t_radar_lookTimes)), ((g_t_radar 7), .inl (K 0, 4, .inl t_radar_lookSizes)), ((g_t_radar 8), .inl (K 0, 48, .inl t_radar_lookNumbers)), ((g_t_tracks 0), .inr (8, [.ref (g_t_tracks 1), .ref (g_t_tracks 2), .int t_tracks_passed])), ((g_t_tracks 1), .inl (K 0, 48, .inl t_tracks_lasts)), ((g_t_tracks 2), .inl (K 0, 4, .inl t_tracks_path))]
def J_X10_track_58 (t_radar_lookCount : Int32) (t_radar_lookTimes : Nat → Int32) (t_radar_lookSizes : Nat → Int32) (t_radar_lookNumbers : Nat → Int32) (t_tracks_passed : Int32) (t_tracks_lasts : Nat → Int32) (t_tracks_path : Nat → Int32) (x1 : Int32) (x2 : Int32) : Option (Int32 × Int32 × (Nat → Int32) × (Nat → Int32)) :=
  (F_X9_seek t_tracks_passed t_tracks_lasts t_tracks_path t_radar_lookCount t_radar_lookTimes t_radar_lookSizes t_radar_lookNumbers x1).bind fun r_1 => (if r_1.1 = (0 : Int32) then (some ((-100000 : Int32), r_1.2.1, r_1.2.2.1, r_1.2.2.2)) else (if x2 = (10 : Int32) then ((F_X9_paceOf r_1.2.2.2 t_radar_lookCount t_radar_lookTimes t_radar_lookNumbers).bind fun r_7 => (some (r_7, r_1.2.1, r_1.2.2.1, r_1.2.2.2))) else ((F_X9_numberIn r_1.2.2.2 t_radar_lookNumbers x2).bind fun r_5 => (some (r_5, r_1.2.1, r_1.2.2.1, r_1.2.2.2)))))
set_option maxHeartbeats 4000000 in
set_option maxRecDepth 100000 in
theorem w_X10_track_58 {p : Program} {l : Launch} {e : Env} {s : State} {m : MethodId} {args : Array Value} {below : List Frame} {meth : Method} {c : Code} {D : va_G} {K : Nat → ClassId} {A : Nat → Prop} {Q : State → Prop} (C0 : cx_ p s m args c cX10_track 3 RX10 wsX10_track D K A) {g_t : Nat → Nat} {g_t_radar : Nat → Nat} {g_t_draft : Nat → Nat} {g_t_text : Nat → Nat} {g_t_reader : Nat → Nat} {g_t_history : Nat → Nat} {g_t_echoes : Nat → Nat} {g_t_tracks : Nat → Nat} {g_t_dwelling : Nat → Nat} {g_t_chooser : Nat → Nat} {g_t_adviser : Nat → Nat} {t_radar_gapCount : Int32} {t_radar_targetCount : Int32} {t_radar_lookCount : Int32} {t_radar_time : Int32} {t_radar_gone : Int32} {t_radar_lookTimes : Nat → Int32} {t_radar_lookSizes : Nat → Int32} {t_radar_lookNumbers : Nat → Int32} {res : Int32 × Int32 × (Nat → Int32) × (Nat → Int32)} (HR : ∀ (pc : Nat) (H : Heap) (locs : List Loc) (ls : Array Slot), decode cX10_track pc = .ok (.ireturn, 1) → va_P D vwCl (w_X10_track K g_t g_t_radar g_t_draft g_t_text g_t_reader g_t_history g_t_echoes g_t_tracks g_t_dwelling g_t_chooser g_t_adviser t_radar_gapCount t_radar_targetCount t_radar_lookCount t_radar_time t_radar_gone t_radar_lookTimes t_radar_lookSizes t_radar_lookNumbers res.2.1 res.2.2.1 res.2.2.2) H → va_D A (w_X10_track K g_t g_t_radar g_t_draft g_t_text g_t_reader g_t_history g_t_echoes g_t_tracks g_t_dwelling g_t_chooser g_t_adviser t_radar_gapCount t_radar_targetCount t_radar_lookCount t_radar_time t_radar_gone t_radar_lookTimes t_radar_lookSizes t_radar_lookNumbers res.2.1 res.2.2.1 res.2.2.2) → va_S A s.heap H locs → W p l e rmX10_track s m args below meth c H locs 0 0 Q (F0 m pc ls [.int res.1]))  :
    ∀ (t_tracks_passed : Int32) (t_tracks_lasts : Nat → Int32) (t_tracks_path : Nat → Int32) (x1 : Int32) (x2 : Int32) (H : Heap) (locs : List Loc) (ls : Array Slot), va_P D vwCl (w_X10_track K g_t g_t_radar g_t_draft g_t_text g_t_reader g_t_history g_t_echoes g_t_tracks g_t_dwelling g_t_chooser g_t_adviser t_radar_gapCount t_radar_targetCount t_radar_lookCount t_radar_time t_radar_gone t_radar_lookTimes t_radar_lookSizes t_radar_lookNumbers t_tracks_passed t_tracks_lasts t_tracks_path) H → va_D A (w_X10_track K g_t g_t_radar g_t_draft g_t_text g_t_reader g_t_history g_t_echoes g_t_tracks g_t_dwelling g_t_chooser g_t_adviser t_radar_gapCount t_radar_targetCount t_radar_lookCount t_radar_time t_radar_gone t_radar_lookTimes t_radar_lookSizes t_radar_lookNumbers t_tracks_passed t_tracks_lasts t_tracks_path) → va_S A s.heap H locs → lv_has ls 3 [(0, .ref (g_t 0)), (1, .int x1), (2, .int x2)] → J_X10_track_58 t_radar_lookCount t_radar_lookTimes t_radar_lookSizes t_radar_lookNumbers t_tracks_passed t_tracks_lasts t_tracks_path x1 x2 = some res → W p l e rmX10_track s m args below meth c H locs 0 0 Q (F0 m 58 ls []) := by
  obtain ⟨⟨hx, hb, hml, hown, hts⟩, hK, -⟩ := id C0
  intro t_tracks_passed t_tracks_lasts t_tracks_path x1 x2 H locs ls hP hD hS hl hF
  unfold J_X10_track_58 at hF
  refine lv_aload_n hx hb dX10_track_58 rfl (lv_at hl 0 rfl) ?_
  refine va_get (D := D) (ci := 9) (v := .ref (g_t_tracks 0)) (C := RX10) (T := TX10) (N := 14) hx hb hts iw_X10_track_X10 hown hK hP 0 rfl rfl 9 (by decide) (hts _ fl_X10_track_62) (fun _ h9 => h9) rfl dX10_track_59 ?_
  refine lv_aload_n hx hb dX10_track_62 rfl (lv_at hl 0 rfl) ?_
  refine va_get (D := D) (ci := 9) (v := .ref (g_t_radar 0)) (C := RX10) (T := TX10) (N := 14) hx hb hts iw_X10_track_X10 hown hK hP 0 rfl rfl 0 (by decide) (hts _ fl_X10_track_10) (fun _ h9 => h9) rfl dX10_track_63 ?_
  refine lv_iload_n hx hb dX10_track_66 rfl (lv_at hl 1 rfl) ?_
  obtain ⟨r_1, hc_2, hF⟩ := bn_some hF
  refine xc_i (wn := (w_X10_track K g_t g_t_radar g_t_draft g_t_text g_t_reader g_t_history g_t_echoes g_t_tracks g_t_dwelling g_t_chooser g_t_adviser t_radar_gapCount t_radar_targetCount t_radar_lookCount t_radar_time t_radar_gone t_radar_lookTimes t_radar_lookSizes t_radar_lookNumbers r_1.2.1 r_1.2.2.1 r_1.2.2.2)) hP hD hS C0.2.2.1 [5, 6, 7, 1, 2, 3, 4] [0] [0, 4, 5, 6, 7, 1, 2, 3] rfl rfl (by decide) (by decide) rfl (by decide) (va_runV (As := [.ref (g_t_radar 0), .int x1]) (rest := []) C0.1 (c_X9_seek l D K g_t_tracks g_t_radar t_tracks_passed t_tracks_lasts t_tracks_path t_radar_gapCount t_radar_targetCount t_radar_lookCount t_radar_time t_radar_gone t_radar_lookTimes t_radar_lookSizes t_radar_lookNumbers x1 r_1 hc_2 H.size) (cwV 2 hts gX10_track_X9_seek rfl rfl rfl (by decide +kernel) ⟨Nat.le_of_ble_eq_true rfl, Nat.le_of_ble_eq_true rfl⟩) (xp_V C0.2 hP hD hS [5, 6, 7, 1, 2, 3, 4] rfl (by decide) 8 0 rfl rfl rfl) rfl rfl hl.1 rfl (lv_room (Nat.le_of_ble_eq_true rfl)) dX10_track_67 ⟨Nat.le_of_ble_eq_true rfl, Nat.le_of_ble_eq_true rfl⟩) (fun H locs hP hD hS => ?_)
  refine lv_if_ne (tgt := 77) hx hb dX10_track_70 (by decide) (fun c_3 => ?_) (fun c_3 => ?_)
  · have hF := it_neg c_3 hF
    refine lv_iload_n hx hb dX10_track_77 rfl (lv_at hl 2 rfl) ?_
    refine lv_bipush (v := 10) hx hb dX10_track_78 (by decide) ?_
    refine lv_icmp_ne (tgt := 97) hx hb dX10_track_80 (by decide) (fun c_4 => ?_) (fun c_4 => ?_)
    · have hF := it_neg c_4 hF
      refine lv_aload_n hx hb dX10_track_97 rfl (lv_at hl 0 rfl) ?_
      refine va_get (D := D) (ci := 9) (v := .ref (g_t_tracks 0)) (C := RX10) (T := TX10) (N := 14) hx hb hts iw_X10_track_X10 hown hK hP 0 rfl rfl 9 (by decide) (hts _ fl_X10_track_62) (fun _ h9 => h9) rfl dX10_track_98 ?_
      refine lv_aload_n hx hb dX10_track_101 rfl (lv_at hl 0 rfl) ?_
      refine va_get (D := D) (ci := 9) (v := .ref (g_t_radar 0)) (C := RX10) (T := TX10) (N := 14) hx hb hts iw_X10_track_X10 hown hK hP 0 rfl rfl 0 (by decide) (hts _ fl_X10_track_10) (fun _ h9 => h9) rfl dX10_track_102 ?_
      refine lv_iload_n hx hb dX10_track_105 rfl (lv_at hl 2 rfl) ?_
      obtain ⟨r_5, hc_6, hF⟩ := bn_some hF
      refine xc_i (wn := (w_X10_track K g_t g_t_radar g_t_draft g_t_text g_t_reader g_t_history g_t_echoes g_t_tracks g_t_dwelling g_t_chooser g_t_adviser t_radar_gapCount t_radar_targetCount t_radar_lookCount t_radar_time t_radar_gone t_radar_lookTimes t_radar_lookSizes t_radar_lookNumbers r_1.2.1 r_1.2.2.1 r_1.2.2.2)) hP hD hS C0.2.2.1 [5, 7, 1, 4] [0, 2, 3, 6] [0, 6, 1, 2, 7, 4, 3, 5] rfl rfl (by decide) (by decide) rfl (by decide) (va_runV (As := [.ref (g_t_radar 0), .int x2]) (rest := []) C0.1 (c_X9_numberIn l D K g_t_tracks g_t_radar r_1.2.1 r_1.2.2.2 t_radar_gapCount t_radar_targetCount t_radar_lookCount t_radar_time t_radar_gone t_radar_lookNumbers x2 r_5 hc_6 H.size) (cwV 2 hts gX10_track_X9_numberIn rfl rfl rfl (by decide +kernel) ⟨Nat.le_of_ble_eq_true rfl, Nat.le_of_ble_eq_true rfl⟩) (xp_V C0.2 hP hD hS [5, 7, 1, 4] rfl (by decide) 8 0 rfl rfl rfl) rfl rfl hl.1 rfl (lv_room (Nat.le_of_ble_eq_true rfl)) dX10_track_106 ⟨Nat.le_of_ble_eq_true rfl, Nat.le_of_ble_eq_true rfl⟩) (fun H locs hP hD hS => ?_)
      obtain rfl := Option.some.inj hF
      exact HR 109 H locs ls dX10_track_109 hP hD hS
    · have hF := it_pos c_4 hF
      refine lv_aload_n hx hb dX10_track_83 rfl (lv_at hl 0 rfl) ?_
      refine va_get (D := D) (ci := 9) (v := .ref (g_t_tracks 0)) (C := RX10) (T := TX10) (N := 14) hx hb hts iw_X10_track_X10 hown hK hP 0 rfl rfl 9 (by decide) (hts _ fl_X10_track_62) (fun _ h9 => h9) rfl dX10_track_84 ?_
      refine lv_aload_n hx hb dX10_track_87 rfl (lv_at hl 0 rfl) ?_
      refine va_get (D := D) (ci := 9) (v := .ref (g_t_radar 0)) (C := RX10) (T := TX10) (N := 14) hx hb hts iw_X10_track_X10 hown hK hP 0 rfl rfl 0 (by decide) (hts _ fl_X10_track_10) (fun _ h9 => h9) rfl dX10_track_88 ?_
      obtain ⟨r_7, hc_8, hF⟩ := bn_some hF
      refine xc_i (wn := (w_X10_track K g_t g_t_radar g_t_draft g_t_text g_t_reader g_t_history g_t_echoes g_t_tracks g_t_dwelling g_t_chooser g_t_adviser t_radar_gapCount t_radar_targetCount t_radar_lookCount t_radar_time t_radar_gone t_radar_lookTimes t_radar_lookSizes t_radar_lookNumbers r_1.2.1 r_1.2.2.1 r_1.2.2.2)) hP hD hS C0.2.2.1 [5, 7, 1, 2, 4] [0, 3, 6] [0, 5, 6, 1, 7, 3, 2, 4] rfl rfl (by decide) (by decide) rfl (by decide) (va_runV (As := [.ref (g_t_radar 0)]) (rest := []) C0.1 (c_X9_paceOf l D K g_t_tracks g_t_radar r_1.2.1 r_1.2.2.2 t_radar_gapCount t_radar_targetCount t_radar_lookCount t_radar_time t_radar_gone t_radar_lookTimes t_radar_lookNumbers r_7 hc_8 H.size) (cwV 1 hts gX10_track_X9_paceOf rfl rfl rfl (by decide +kernel) ⟨Nat.le_of_ble_eq_true rfl, Nat.le_of_ble_eq_true rfl⟩) (xp_V C0.2 hP hD hS [5, 7, 1, 2, 4] rfl (by decide) 8 0 rfl rfl rfl) rfl rfl hl.1 rfl (lv_room (Nat.le_of_ble_eq_true rfl)) dX10_track_91 ⟨Nat.le_of_ble_eq_true rfl, Nat.le_of_ble_eq_true rfl⟩) (fun H locs hP hD hS => ?_)
      refine lv_goto (tgt := 109) hx hb dX10_track_94 (by decide) ?_
      obtain rfl := Option.some.inj hF
      exact HR 109 H locs ls dX10_track_109 hP hD hS
  · have hF := it_pos c_3 hF
    refine lv_ldcw (v := -100000) hx hb hown (hts _ ld_X10_track_317) dX10_track_73 ?_
    obtain rfl := Option.some.inj hF
    exact HR 76 H locs ls dX10_track_76 hP hD hS
def F_X10_track (t_radar_lookCount : Int32) (t_radar_lookTimes : Nat → Int32) (t_radar_lookSizes : Nat → Int32) (t_radar_lookNumbers : Nat → Int32) (t_tracks_passed : Int32) (t_tracks_lasts : Nat → Int32) (t_tracks_path : Nat → Int32) (x1 : Int32) (x2 : Int32) : Option (Int32 × Int32 × (Nat → Int32) × (Nat → Int32)) :=
  if x1 = (-1 : Int32) then (if x2 = (0 : Int32) then ((F_X9_countAll t_tracks_passed t_tracks_lasts t_tracks_path t_radar_lookCount t_radar_lookTimes t_radar_lookSizes t_radar_lookNumbers).bind fun r_8 => (some (r_8.1, r_8.2.1, r_8.2.2.1, r_8.2.2.2))) else (some ((-100000 : Int32), t_tracks_passed, t_tracks_lasts, t_tracks_path))) else (if x1 < (0 : Int32) then (some ((-100000 : Int32), t_tracks_passed, t_tracks_lasts, t_tracks_path)) else (if x2 = (10 : Int32) then (J_X10_track_58 t_radar_lookCount t_radar_lookTimes t_radar_lookSizes t_radar_lookNumbers t_tracks_passed t_tracks_lasts t_tracks_path x1 x2) else ((F_X10_isWithin x2 (0 : Int32) (t_radar_lookCount - (1 : Int32))).bind fun r_4 => (if r_4 = (0 : Int32) then (some ((-100000 : Int32), t_tracks_passed, t_tracks_lasts, t_tracks_path)) else (J_X10_track_58 t_radar_lookCount t_radar_lookTimes t_radar_lookSizes t_radar_lookNumbers t_tracks_passed t_tracks_lasts t_tracks_path x1 x2)))))
set_option maxHeartbeats 4000000 in
set_option maxRecDepth 100000 in
theorem c_X10_track (l : Launch) (D : va_G) (K : Nat → ClassId) (g_t : Nat → Nat) (g_t_radar : Nat → Nat) (g_t_draft : Nat → Nat) (g_t_text : Nat → Nat) (g_t_reader : Nat → Nat) (g_t_history : Nat → Nat) (g_t_echoes : Nat → Nat) (g_t_tracks : Nat → Nat) (g_t_dwelling : Nat → Nat) (g_t_chooser : Nat → Nat) (g_t_adviser : Nat → Nat) (t_radar_gapCount : Int32) (t_radar_targetCount : Int32) (t_radar_lookCount : Int32) (t_radar_time : Int32) (t_radar_gone : Int32) (t_radar_lookTimes : Nat → Int32) (t_radar_lookSizes : Nat → Int32) (t_radar_lookNumbers : Nat → Int32) (t_tracks_passed : Int32) (t_tracks_lasts : Nat → Int32) (t_tracks_path : Nat → Int32) (x1 : Int32) (x2 : Int32) (res : Int32 × Int32 × (Nat → Int32) × (Nat → Int32)) (hF : F_X10_track t_radar_lookCount t_radar_lookTimes t_radar_lookSizes t_radar_lookNumbers t_tracks_passed t_tracks_lasts t_tracks_path x1 x2 = some res) :
    Mi_ l yX10_track wsX10_track rmX10_track D K [.ref (g_t 0), .int x1, .int x2] (w_X10_track K g_t g_t_radar g_t_draft g_t_text g_t_reader g_t_history g_t_echoes g_t_tracks g_t_dwelling g_t_chooser g_t_adviser t_radar_gapCount t_radar_targetCount t_radar_lookCount t_radar_time t_radar_gone t_radar_lookTimes t_radar_lookSizes t_radar_lookNumbers t_tracks_passed t_tracks_lasts t_tracks_path) (w_X10_track K g_t g_t_radar g_t_draft g_t_text g_t_reader g_t_history g_t_echoes g_t_tracks g_t_dwelling g_t_chooser g_t_adviser t_radar_gapCount t_radar_targetCount t_radar_lookCount t_radar_time t_radar_gone t_radar_lookTimes t_radar_lookSizes t_radar_lookNumbers res.2.1 res.2.2.1 res.2.2.2) (res.1) := by
  refine en_i (cc := cX10_track) (maxL := 3) (own := RX10) (by decide) rfl rfl (Nat.le_of_ble_eq_true rfl) ?_
  intro p e s m args below meth c A Q H locs ls C0 hP hD hS hl HR
  obtain ⟨⟨hx, hb, hml, hown, hts⟩, hK, -⟩ := id C0
  have hl : lv_has ls 3 [(0, .ref (g_t 0)), (1, .int x1), (2, .int x2)] := hl
  unfold F_X10_track at hF
  refine lv_iload_n hx hb dX10_track_0 rfl (lv_at hl 1 rfl) ?_
  refine lv_iconst (v := (-1)) hx hb dX10_track_1 (by decide) ?_
  refine lv_icmp_ne (tgt := 27) hx hb dX10_track_2 (by decide) (fun c_1 => ?_) (fun c_1 => ?_)
  · have hF := it_neg c_1 hF
    refine lv_iload_n hx hb dX10_track_27 rfl (lv_at hl 1 rfl) ?_
    refine lv_if_lt (tgt := 54) hx hb dX10_track_28 (by decide) (fun c_2 => ?_) (fun c_2 => ?_)
    · have hF := it_pos c_2 hF
      refine lv_ldcw (v := -100000) hx hb hown (hts _ ld_X10_track_317) dX10_track_54 ?_
      obtain rfl := Option.some.inj hF
      exact HR 57 H locs ls dX10_track_57 hP hD hS
    · have hF := it_neg c_2 hF
      refine lv_iload_n hx hb dX10_track_31 rfl (lv_at hl 2 rfl) ?_
      refine lv_bipush (v := 10) hx hb dX10_track_32 (by decide) ?_
      refine lv_icmp_eq (tgt := 58) hx hb dX10_track_34 (by decide) (fun c_3 => ?_) (fun c_3 => ?_)
      · have hF := it_pos c_3 hF
        exact w_X10_track_58 C0 HR t_tracks_passed t_tracks_lasts t_tracks_path x1 x2 H locs ls hP hD hS (lv_sub hl [0, 1, 2] rfl) hF
      · have hF := it_neg c_3 hF
        refine lv_iload_n hx hb dX10_track_37 rfl (lv_at hl 2 rfl) ?_
        refine lv_iconst (v := 0) hx hb dX10_track_38 (by decide) ?_
        refine lv_aload_n hx hb dX10_track_39 rfl (lv_at hl 0 rfl) ?_
        refine va_get (D := D) (ci := 9) (v := .ref (g_t_radar 0)) (C := RX10) (T := TX10) (N := 14) hx hb hts iw_X10_track_X10 hown hK hP 0 rfl rfl 0 (by decide) (hts _ fl_X10_track_10) (fun _ h9 => h9) rfl dX10_track_40 ?_
        refine va_get (D := D) (ci := 5) (v := .int t_radar_lookCount) (C := RX5) (T := TX5) (N := 13) hx hb hts iw_X10_track_X5 hown hK hP 1 rfl rfl 10 (by decide) (hts _ fl_X10_track_178) (fun _ h9 => h9) rfl dX10_track_43 ?_
        refine lv_iconst (v := 1) hx hb dX10_track_46 (by decide) ?_
        refine lv_isub hx hb dX10_track_47 ?_
        obtain ⟨r_4, hc_5, hF⟩ := bn_some hF
        refine xc_i (wn := (w_X10_track K g_t g_t_radar g_t_draft g_t_text g_t_reader g_t_history g_t_echoes g_t_tracks g_t_dwelling g_t_chooser g_t_adviser t_radar_gapCount t_radar_targetCount t_radar_lookCount t_radar_time t_radar_gone t_radar_lookTimes t_radar_lookSizes t_radar_lookNumbers t_tracks_passed t_tracks_lasts t_tracks_path)) hP hD hS C0.2.2.1 [] [0, 1, 2, 3, 4, 5, 6, 7] [0, 1, 2, 3, 4, 5, 6, 7] rfl rfl (by decide) (by decide) rfl (by decide) (va_runS (As := [.int x2, .int (0 : Int32), .int (t_radar_lookCount - (1 : Int32))]) (rest := []) C0.1 (c_X10_isWithin l D K x2 (0 : Int32) (t_radar_lookCount - (1 : Int32)) r_4 hc_5 H.size) (va_cwS 3 hts gX10_track_X10_isWithin rfl rfl rfl (by decide +kernel) ⟨Nat.le_of_ble_eq_true rfl, Nat.le_of_ble_eq_true rfl⟩) (xp_S C0.2 hP hD hS [] rfl (by decide)) rfl rfl hl.1 rfl (lv_room (Nat.le_of_ble_eq_true rfl)) dX10_track_48 ⟨Nat.le_of_ble_eq_true rfl, Nat.le_of_ble_eq_true rfl⟩) (fun H locs hP hD hS => ?_)
        refine lv_if_ne (tgt := 58) hx hb dX10_track_51 (by decide) (fun c_6 => ?_) (fun c_6 => ?_)
        · have hF := it_neg c_6 hF
          exact w_X10_track_58 C0 HR t_tracks_passed t_tracks_lasts t_tracks_path x1 x2 H locs ls hP hD hS (lv_sub hl [0, 1, 2] rfl) hF
        · have hF := it_pos c_6 hF
          refine lv_ldcw (v := -100000) hx hb hown (hts _ ld_X10_track_317) dX10_track_54 ?_
          obtain rfl := Option.some.inj hF
          exact HR 57 H locs ls dX10_track_57 hP hD hS
  · have hF := it_pos c_1 hF
    refine lv_iload_n hx hb dX10_track_5 rfl (lv_at hl 2 rfl) ?_
    refine lv_if_ne (tgt := 23) hx hb dX10_track_6 (by decide) (fun c_7 => ?_) (fun c_7 => ?_)
    · have hF := it_neg c_7 hF
      refine lv_ldcw (v := -100000) hx hb hown (hts _ ld_X10_track_317) dX10_track_23 ?_
      obtain rfl := Option.some.inj hF
      exact HR 26 H locs ls dX10_track_26 hP hD hS
    · have hF := it_pos c_7 hF
      refine lv_aload_n hx hb dX10_track_9 rfl (lv_at hl 0 rfl) ?_
      refine va_get (D := D) (ci := 9) (v := .ref (g_t_tracks 0)) (C := RX10) (T := TX10) (N := 14) hx hb hts iw_X10_track_X10 hown hK hP 0 rfl rfl 9 (by decide) (hts _ fl_X10_track_62) (fun _ h9 => h9) rfl dX10_track_10 ?_
      refine lv_aload_n hx hb dX10_track_13 rfl (lv_at hl 0 rfl) ?_
      refine va_get (D := D) (ci := 9) (v := .ref (g_t_radar 0)) (C := RX10) (T := TX10) (N := 14) hx hb hts iw_X10_track_X10 hown hK hP 0 rfl rfl 0 (by decide) (hts _ fl_X10_track_10) (fun _ h9 => h9) rfl dX10_track_14 ?_
      obtain ⟨r_8, hc_9, hF⟩ := bn_some hF
      refine xc_i (wn := (w_X10_track K g_t g_t_radar g_t_draft g_t_text g_t_reader g_t_history g_t_echoes g_t_tracks g_t_dwelling g_t_chooser g_t_adviser t_radar_gapCount t_radar_targetCount t_radar_lookCount t_radar_time t_radar_gone t_radar_lookTimes t_radar_lookSizes t_radar_lookNumbers r_8.2.1 r_8.2.2.1 r_8.2.2.2)) hP hD hS C0.2.2.1 [5, 6, 7, 1, 2, 3, 4] [0] [0, 4, 5, 6, 7, 1, 2, 3] rfl rfl (by decide) (by decide) rfl (by decide) (va_runV (As := [.ref (g_t_radar 0)]) (rest := []) C0.1 (c_X9_countAll l D K g_t_tracks g_t_radar t_tracks_passed t_tracks_lasts t_tracks_path t_radar_gapCount t_radar_targetCount t_radar_lookCount t_radar_time t_radar_gone t_radar_lookTimes t_radar_lookSizes t_radar_lookNumbers r_8 hc_9 H.size) (cwV 1 hts gX10_track_X9_countAll rfl rfl rfl (by decide +kernel) ⟨Nat.le_of_ble_eq_true rfl, Nat.le_of_ble_eq_true rfl⟩) (xp_V C0.2 hP hD hS [5, 6, 7, 1, 2, 3, 4] rfl (by decide) 8 0 rfl rfl rfl) rfl rfl hl.1 rfl (lv_room (Nat.le_of_ble_eq_true rfl)) dX10_track_17 ⟨Nat.le_of_ble_eq_true rfl, Nat.le_of_ble_eq_true rfl⟩) (fun H locs hP hD hS => ?_)
      refine lv_goto (tgt := 26) hx hb dX10_track_20 (by decide) ?_
      obtain rfl := Option.some.inj hF
      exact HR 26 H locs ls dX10_track_26 hP hD hS

/-! StaggerRadar.Text.append(I)V -/
abbrev rmX8_append : Room := { frames := 0, cells := 0, slots := 0, locals := 0 }
theorem fl_X8_append_9 : Cond.fieldLink RX8 9 "StaggerRadar$Text" "bytes" "[I" ∈ wsX8_append := by decide +kernel
theorem fl_X8_append_19 : Cond.fieldLink RX8 19 "StaggerRadar$Text" "size" "I" ∈ wsX8_append := by decide +kernel
theorem iw_X8_append_X8 : ∀ w ∈ u_ws RX8 TX8 4, w ∈ wsX8_append := by decide +kernel
abbrev w_X8_append (K : Nat → ClassId) (g_t : Nat → Nat) (t_size : Int32) (t_faultKind : Int32) (t_faultPlace : Int32) (t_bytes : Nat → Int32) : va_W := [((g_t 0), .inr (7, [.ref (g_t 1), .int t_size, .int t_faultKind, .int t_faultPlace])), ((g_t 1), .inl (K 0, 400, .inl t_bytes))]
def F_X8_append (t_size : Int32) (t_bytes : Nat → Int32) (x1 : Int32) : Option (Int32 × (Nat → Int32)) :=
  if (400 : Int32) ≤ t_size then (some (t_size, t_bytes)) else (gd_ (in_b t_size 400) (some ((t_size + (1 : Int32)), (upd t_bytes (t_size).toNatClampNeg x1))))
set_option maxHeartbeats 4000000 in
set_option maxRecDepth 100000 in
theorem c_X8_append (l : Launch) (D : va_G) (K : Nat → ClassId) (g_t : Nat → Nat) (t_size : Int32) (t_faultKind : Int32) (t_faultPlace : Int32) (t_bytes : Nat → Int32) (x1 : Int32) (res : Int32 × (Nat → Int32)) (hF : F_X8_append t_size t_bytes x1 = some res) :
    Mv_ l yX8_append wsX8_append rmX8_append D K [.ref (g_t 0), .int x1] (w_X8_append K g_t t_size t_faultKind t_faultPlace t_bytes) (w_X8_append K g_t res.1 t_faultKind t_faultPlace res.2) := by
  refine en_v (cc := cX8_append) (maxL := 2) (own := RX8) (by decide) rfl rfl (Nat.le_of_ble_eq_true rfl) ?_
  intro p e s m args below meth c A Q H locs ls C0 hP hD hS hl HR
  obtain ⟨⟨hx, hb, hml, hown, hts⟩, hK, -⟩ := id C0
  have hl : lv_has ls 2 [(0, .ref (g_t 0)), (1, .int x1)] := hl
  unfold F_X8_append at hF
  refine lv_aload_n hx hb dX8_append_0 rfl (lv_at hl 0 rfl) ?_
  refine va_get (D := D) (ci := 7) (v := .int t_size) (C := RX8) (T := TX8) (N := 4) hx hb hts iw_X8_append_X8 hown hK hP 0 rfl rfl 1 (by decide) (hts _ fl_X8_append_19) (fun _ h9 => h9) rfl dX8_append_1 ?_
  refine lv_sipush (v := 400) hx hb dX8_append_4 (by decide) ?_
  refine lv_icmp_ge (tgt := 30) hx hb dX8_append_7 (by decide) (fun c_1 => ?_) (fun c_1 => ?_)
  · have hF := it_pos c_1 hF
    obtain rfl := Option.some.inj hF
    exact HR 30 H locs ls dX8_append_30 hP hD hS
  · have hF := it_neg c_1 hF
    refine lv_aload_n hx hb dX8_append_10 rfl (lv_at hl 0 rfl) ?_
    refine va_get (D := D) (ci := 7) (v := .ref (g_t 1)) (C := RX8) (T := TX8) (N := 4) hx hb hts iw_X8_append_X8 hown hK hP 0 rfl rfl 0 (by decide) (hts _ fl_X8_append_9) (fun _ h9 => h9) rfl dX8_append_11 ?_
    refine lv_aload_n hx hb dX8_append_14 rfl (lv_at hl 0 rfl) ?_
    refine va_get (D := D) (ci := 7) (v := .int t_size) (C := RX8) (T := TX8) (N := 4) hx hb hts iw_X8_append_X8 hown hK hP 0 rfl rfl 1 (by decide) (hts _ fl_X8_append_19) (fun _ h9 => h9) rfl dX8_append_15 ?_
    refine lv_iload_n hx hb dX8_append_18 rfl (lv_at hl 1 rfl) ?_
    obtain ⟨hg_2, hF⟩ := gd_some hF
    refine xs_i (f := t_bytes) hx hb hK hP hD hS 1 0 rfl rfl rfl (in_v hg_2) dX8_append_19 (fun H locs hP hD hS => ?_)
    have hP : va_P D vwCl (w_X8_append K g_t t_size t_faultKind t_faultPlace (upd t_bytes (t_size).toNatClampNeg x1)) H := hP
    have hD : va_D A (w_X8_append K g_t t_size t_faultKind t_faultPlace (upd t_bytes (t_size).toNatClampNeg x1)) := hD
    refine lv_aload_n hx hb dX8_append_20 rfl (lv_at hl 0 rfl) ?_
    refine lv_dup hx hb dX8_append_21 rfl ?_
    refine va_get (D := D) (ci := 7) (v := .int t_size) (C := RX8) (T := TX8) (N := 4) hx hb hts iw_X8_append_X8 hown hK hP 0 rfl rfl 1 (by decide) (hts _ fl_X8_append_19) (fun _ h9 => h9) rfl dX8_append_22 ?_
    refine lv_iconst (v := 1) hx hb dX8_append_25 (by decide) ?_
    refine lv_iadd hx hb dX8_append_26 ?_
    refine va_put (D := D) (ci := 7) (v := .int (t_size + (1 : Int32))) (ty := .int) (C := RX8) (T := TX8) (N := 4) hx hb hts iw_X8_append_X8 tyX8 tyX8_ok nmX8 hown hK hP hD hS 0 rfl rfl 1 (by decide) (hts _ fl_X8_append_19) (fun _ h9 => h9) rfl (by decide +kernel) rfl rfl (Nat.le_of_ble_eq_true rfl) dX8_append_27 (fun H locs hP hD hS => ?_)
    have hP : va_P D vwCl (w_X8_append K g_t (t_size + (1 : Int32)) t_faultKind t_faultPlace (upd t_bytes (t_size).toNatClampNeg x1)) H := hP
    have hD : va_D A (w_X8_append K g_t (t_size + (1 : Int32)) t_faultKind t_faultPlace (upd t_bytes (t_size).toNatClampNeg x1)) := hD
    obtain rfl := Option.some.inj hF
    exact HR 30 H locs ls dX8_append_30 hP hD hS
