/-! ===== BEGIN gapOf and targetOf of the class, where they answer ===== -/
/-! StaggerRadar.gapOf(II)I -/
abbrev rmX10_gapOf : Room := { frames := 5, cells := 0, slots := 0, locals := 115 }
theorem fl_X10_gapOf_10 : Cond.fieldLink RX10 10 "StaggerRadar" "radar" "LStaggerRadar$Radar;" ∈ wsX10_gapOf := by decide +kernel
theorem fl_X10_gapOf_55 : Cond.fieldLink RX10 55 "StaggerRadar" "echoes" "LStaggerRadar$Echoes;" ∈ wsX10_gapOf := by decide +kernel
theorem fl_X10_gapOf_238 : Cond.fieldLink RX10 238 "StaggerRadar$Radar" "gaps" "[I" ∈ wsX10_gapOf := by decide +kernel
theorem iw_X10_gapOf_X10 : ∀ w ∈ u_ws RX10 TX10 14, w ∈ wsX10_gapOf := by decide +kernel
theorem iw_X10_gapOf_X3 : ∀ w ∈ u_ws RX3 TX3 6, w ∈ wsX10_gapOf := by decide +kernel
theorem iw_X10_gapOf_X5 : ∀ w ∈ u_ws RX5 TX5 13, w ∈ wsX10_gapOf := by decide +kernel
abbrev w_X10_gapOf (K : Nat → ClassId) (g_t : Nat → Nat) (g_t_radar : Nat → Nat) (g_t_draft : Nat → Nat) (g_t_text : Nat → Nat) (g_t_reader : Nat → Nat) (g_t_history : Nat → Nat) (g_t_echoes : Nat → Nat) (g_t_tracks : Nat → Nat) (g_t_dwelling : Nat → Nat) (g_t_chooser : Nat → Nat) (g_t_adviser : Nat → Nat) (t_radar_gapCount : Int32) (t_radar_targetCount : Int32) (t_radar_lookCount : Int32) (t_radar_time : Int32) (t_radar_gone : Int32) (t_radar_gaps : Nat → Int32) (t_radar_settings : Nat → Int32) (t_radar_spots : Nat → Int32) (t_radar_speeds : Nat → Int32) (t_radar_strengths : Nat → Int32) (t_echoes_shownCount : Int32) (t_echoes_targets : Nat → Int32) (t_echoes_loud : Nat → Int32) : va_W := [((g_t 0), .inr (9, [.ref (g_t_radar 0), .ref (g_t_draft 0), .ref (g_t_text 0), .ref (g_t_reader 0), .ref (g_t_history 0), .ref (g_t 6), .ref (g_t 7), .ref (g_t 8), .ref (g_t_echoes 0), .ref (g_t_tracks 0), .ref (g_t_dwelling 0), .ref (g_t_chooser 0), .ref (g_t_adviser 0), .ref (g_t 14)])), ((g_t_radar 0), .inr (5, [.ref (g_t_radar 1), .ref (g_t_radar 2), .ref (g_t_radar 3), .ref (g_t_radar 4), .ref (g_t_radar 5), .ref (g_t_radar 6), .ref (g_t_radar 7), .ref (g_t_radar 8), .int t_radar_gapCount, .int t_radar_targetCount, .int t_radar_lookCount, .int t_radar_time, .int t_radar_gone])), ((g_t_radar 1), .inl (K 0, 5, .inl t_radar_gaps)), ((g_t_radar 2), .inl (K 0, 7, .inl t_radar_settings)), ((g_t_radar 3), .inl (K 0, 8, .inl t_radar_spots)), ((g_t_radar 4), .inl (K 0, 8, .inl t_radar_speeds)), ((g_t_radar 5), .inl (K 0, 8, .inl t_radar_strengths)), ((g_t_echoes 0), .inr (3, [.ref (g_t_echoes 1), .ref (g_t_echoes 2), .ref (g_t_echoes 3), .ref (g_t_echoes 4), .ref (g_t_echoes 5), .int t_echoes_shownCount])), ((g_t_echoes 1), .inl (K 0, 300, .inl t_echoes_targets)), ((g_t_echoes 2), .inl (K 0, 300, .inl t_echoes_loud))]
def F_X10_gapOf (t_radar_gapCount : Int32) (t_radar_targetCount : Int32) (t_radar_gaps : Nat → Int32) (t_radar_settings : Nat → Int32) (t_radar_spots : Nat → Int32) (t_radar_speeds : Nat → Int32) (t_radar_strengths : Nat → Int32) (t_echoes_targets : Nat → Int32) (t_echoes_loud : Nat → Int32) (x1 : Int32) (x2 : Int32) : Option (Int32 × (Nat → Int32) × (Nat → Int32)) :=
  (F_X5_hasGap t_radar_gapCount x1).bind fun r_1 => (if r_1 = (0 : Int32) then (none) else ((F_X10_isWithin x2 (0 : Int32) (3 : Int32)).bind fun r_4 => (if r_4 = (0 : Int32) then (none) else (gd_ (in_b x1 5) (if x2 = (0 : Int32) then (some ((t_radar_gaps (x1).toNatClampNeg), t_echoes_targets, t_echoes_loud)) else (if x2 = (1 : Int32) then ((F_X3_listen t_echoes_targets t_echoes_loud t_radar_gapCount t_radar_targetCount t_radar_gaps t_radar_settings t_radar_spots t_radar_speeds t_radar_strengths).bind fun r_10 => ((F_X3_countOfGap r_10.2 t_radar_gaps t_radar_settings x1).bind fun r_12 => (some (r_12, r_10.1, r_10.2)))) else (if x2 = (2 : Int32) then ((F_X5_targetsSeenBy t_radar_targetCount t_radar_settings t_radar_spots t_radar_speeds (t_radar_gaps (x1).toNatClampNeg)).bind fun r_15 => (some (r_15, t_echoes_targets, t_echoes_loud))) else ((F_X7_countBlind t_radar_settings (t_radar_gaps (x1).toNatClampNeg)).bind fun r_18 => (some (r_18, t_echoes_targets, t_echoes_loud))))))))))
set_option maxHeartbeats 4000000 in
set_option maxRecDepth 100000 in
theorem c_X10_gapOf (l : Launch) (D : va_G) (K : Nat → ClassId) (g_t : Nat → Nat) (g_t_radar : Nat → Nat) (g_t_draft : Nat → Nat) (g_t_text : Nat → Nat) (g_t_reader : Nat → Nat) (g_t_history : Nat → Nat) (g_t_echoes : Nat → Nat) (g_t_tracks : Nat → Nat) (g_t_dwelling : Nat → Nat) (g_t_chooser : Nat → Nat) (g_t_adviser : Nat → Nat) (t_radar_gapCount : Int32) (t_radar_targetCount : Int32) (t_radar_lookCount : Int32) (t_radar_time : Int32) (t_radar_gone : Int32) (t_radar_gaps : Nat → Int32) (t_radar_settings : Nat → Int32) (t_radar_spots : Nat → Int32) (t_radar_speeds : Nat → Int32) (t_radar_strengths : Nat → Int32) (t_echoes_shownCount : Int32) (t_echoes_targets : Nat → Int32) (t_echoes_loud : Nat → Int32) (x1 : Int32) (x2 : Int32) (res : Int32 × (Nat → Int32) × (Nat → Int32)) (hF : F_X10_gapOf t_radar_gapCount t_radar_targetCount t_radar_gaps t_radar_settings t_radar_spots t_radar_speeds t_radar_strengths t_echoes_targets t_echoes_loud x1 x2 = some res) :
    Mi_ l yX10_gapOf wsX10_gapOf rmX10_gapOf D K [.ref (g_t 0), .int x1, .int x2] (w_X10_gapOf K g_t g_t_radar g_t_draft g_t_text g_t_reader g_t_history g_t_echoes g_t_tracks g_t_dwelling g_t_chooser g_t_adviser t_radar_gapCount t_radar_targetCount t_radar_lookCount t_radar_time t_radar_gone t_radar_gaps t_radar_settings t_radar_spots t_radar_speeds t_radar_strengths t_echoes_shownCount t_echoes_targets t_echoes_loud) (w_X10_gapOf K g_t g_t_radar g_t_draft g_t_text g_t_reader g_t_history g_t_echoes g_t_tracks g_t_dwelling g_t_chooser g_t_adviser t_radar_gapCount t_radar_targetCount t_radar_lookCount t_radar_time t_radar_gone t_radar_gaps t_radar_settings t_radar_spots t_radar_speeds t_radar_strengths t_echoes_shownCount res.2.1 res.2.2) (res.1) := by
  refine en_i (cc := cX10_gapOf) (maxL := 4) (own := RX10) (by decide) rfl rfl (Nat.le_of_ble_eq_true rfl) ?_
  intro p e s m args below meth c A Q H locs ls C0 hP hD hS hl HR
  obtain ⟨⟨hx, hb, hml, hown, hts⟩, hK, -⟩ := id C0
  have hl : lv_has ls 4 [(0, .ref (g_t 0)), (1, .int x1), (2, .int x2)] := hl
  unfold F_X10_gapOf at hF
  refine lv_aload_n hx hb dX10_gapOf_0 rfl (lv_at hl 0 rfl) ?_
  refine va_get (D := D) (ci := 9) (v := .ref (g_t_radar 0)) (C := RX10) (T := TX10) (N := 14) hx hb hts iw_X10_gapOf_X10 hown hK hP 0 rfl rfl 0 (by decide) (hts _ fl_X10_gapOf_10) (fun _ h9 => h9) rfl dX10_gapOf_1 ?_
  refine lv_iload_n hx hb dX10_gapOf_4 rfl (lv_at hl 1 rfl) ?_
  obtain ⟨r_1, hc_2, hF⟩ := bn_some hF
  refine xc_i (wn := (w_X10_gapOf K g_t g_t_radar g_t_draft g_t_text g_t_reader g_t_history g_t_echoes g_t_tracks g_t_dwelling g_t_chooser g_t_adviser t_radar_gapCount t_radar_targetCount t_radar_lookCount t_radar_time t_radar_gone t_radar_gaps t_radar_settings t_radar_spots t_radar_speeds t_radar_strengths t_echoes_shownCount t_echoes_targets t_echoes_loud)) hP hD hS C0.2.2.1 [1] [0, 2, 3, 4, 5, 6, 7, 8, 9] [0, 9, 1, 2, 3, 4, 5, 6, 7, 8] rfl rfl (by decide) (by decide) rfl (by decide) (va_runV (As := [.int x1]) (rest := []) C0.1 (c_X5_hasGap l D K g_t_radar t_radar_gapCount t_radar_targetCount t_radar_lookCount t_radar_time t_radar_gone x1 r_1 hc_2 H.size) (cwV 1 hts gX10_gapOf_X5_hasGap rfl rfl rfl (by decide +kernel) ⟨Nat.le_of_ble_eq_true rfl, Nat.le_of_ble_eq_true rfl⟩) (xp_V C0.2 hP hD hS [1] rfl (by decide) 5 0 rfl rfl rfl) rfl rfl hl.1 rfl (lv_room (Nat.le_of_ble_eq_true rfl)) dX10_gapOf_5 ⟨Nat.le_of_ble_eq_true rfl, Nat.le_of_ble_eq_true rfl⟩) (fun H locs hP hD hS => ?_)
  refine lv_if_eq (tgt := 20) hx hb dX10_gapOf_8 (by decide) (fun c_3 => ?_) (fun c_3 => ?_)
  · have hF := it_pos c_3 hF
    exact no_s hF
  · have hF := it_neg c_3 hF
    refine lv_iload_n hx hb dX10_gapOf_11 rfl (lv_at hl 2 rfl) ?_
    refine lv_iconst (v := 0) hx hb dX10_gapOf_12 (by decide) ?_
    refine lv_iconst (v := 3) hx hb dX10_gapOf_13 (by decide) ?_
    obtain ⟨r_4, hc_5, hF⟩ := bn_some hF
    refine xc_i (wn := (w_X10_gapOf K g_t g_t_radar g_t_draft g_t_text g_t_reader g_t_history g_t_echoes g_t_tracks g_t_dwelling g_t_chooser g_t_adviser t_radar_gapCount t_radar_targetCount t_radar_lookCount t_radar_time t_radar_gone t_radar_gaps t_radar_settings t_radar_spots t_radar_speeds t_radar_strengths t_echoes_shownCount t_echoes_targets t_echoes_loud)) hP hD hS C0.2.2.1 [] [0, 1, 2, 3, 4, 5, 6, 7, 8, 9] [0, 1, 2, 3, 4, 5, 6, 7, 8, 9] rfl rfl (by decide) (by decide) rfl (by decide) (va_runS (As := [.int x2, .int (0 : Int32), .int (3 : Int32)]) (rest := []) C0.1 (c_X10_isWithin l D K x2 (0 : Int32) (3 : Int32) r_4 hc_5 H.size) (va_cwS 3 hts gX10_gapOf_X10_isWithin rfl rfl rfl (by decide +kernel) ⟨Nat.le_of_ble_eq_true rfl, Nat.le_of_ble_eq_true rfl⟩) (xp_S C0.2 hP hD hS [] rfl (by decide)) rfl rfl hl.1 rfl (lv_room (Nat.le_of_ble_eq_true rfl)) dX10_gapOf_14 ⟨Nat.le_of_ble_eq_true rfl, Nat.le_of_ble_eq_true rfl⟩) (fun H locs hP hD hS => ?_)
    refine lv_if_ne (tgt := 28) hx hb dX10_gapOf_17 (by decide) (fun c_6 => ?_) (fun c_6 => ?_)
    · have hF := it_neg c_6 hF
      refine lv_aload_n hx hb dX10_gapOf_28 rfl (lv_at hl 0 rfl) ?_
      refine va_get (D := D) (ci := 9) (v := .ref (g_t_radar 0)) (C := RX10) (T := TX10) (N := 14) hx hb hts iw_X10_gapOf_X10 hown hK hP 0 rfl rfl 0 (by decide) (hts _ fl_X10_gapOf_10) (fun _ h9 => h9) rfl dX10_gapOf_29 ?_
      refine va_get (D := D) (ci := 5) (v := .ref (g_t_radar 1)) (C := RX5) (T := TX5) (N := 13) hx hb hts iw_X10_gapOf_X5 hown hK hP 1 rfl rfl 0 (by decide) (hts _ fl_X10_gapOf_238) (fun _ h9 => h9) rfl dX10_gapOf_32 ?_
      refine lv_iload_n hx hb dX10_gapOf_35 rfl (lv_at hl 1 rfl) ?_
      obtain ⟨hg_7, hF⟩ := gd_some hF
      refine xl_i (f := t_radar_gaps) hx hb hK hP 2 0 rfl rfl rfl (in_v hg_7) dX10_gapOf_36 ?_
      refine lv_istore_n (lv' := [(3, .int (t_radar_gaps (x1).toNatClampNeg)), (0, .ref (g_t 0)), (1, .int x1), (2, .int x2)]) hx hb dX10_gapOf_37 rfl hl (by decide) rfl (fun ls hl => ?_)
      refine lv_iload_n hx hb dX10_gapOf_38 rfl (lv_at hl 3 rfl) ?_
      by_cases c_8 : x2 = (0 : Int32)
      · have hF := it_pos c_8 hF
        refine lv_tableIn (off := 25) (tgt := 64) hx hb dX10_gapOf_39 (by rw [c_8]; decide) (by rw [c_8]; decide) (by rw [c_8]; rfl) (by decide) ?_
        refine lv_iload_n hx hb dX10_gapOf_64 rfl (lv_at hl 0 rfl) ?_
        obtain rfl := Option.some.inj hF
        exact HR 65 H locs ls dX10_gapOf_65 hP hD hS
      have hF := it_neg c_8 hF
      by_cases c_9 : x2 = (1 : Int32)
      · have hF := it_pos c_9 hF
        refine lv_tableIn (off := 27) (tgt := 66) hx hb dX10_gapOf_39 (by rw [c_9]; decide) (by rw [c_9]; decide) (by rw [c_9]; rfl) (by decide) ?_
        refine lv_aload_n hx hb dX10_gapOf_66 rfl (lv_at hl 1 rfl) ?_
        refine va_get (D := D) (ci := 9) (v := .ref (g_t_echoes 0)) (C := RX10) (T := TX10) (N := 14) hx hb hts iw_X10_gapOf_X10 hown hK hP 0 rfl rfl 8 (by decide) (hts _ fl_X10_gapOf_55) (fun _ h9 => h9) rfl dX10_gapOf_67 ?_
        refine lv_aload_n hx hb dX10_gapOf_70 rfl (lv_at hl 1 rfl) ?_
        refine va_get (D := D) (ci := 9) (v := .ref (g_t_radar 0)) (C := RX10) (T := TX10) (N := 14) hx hb hts iw_X10_gapOf_X10 hown hK hP 0 rfl rfl 0 (by decide) (hts _ fl_X10_gapOf_10) (fun _ h9 => h9) rfl dX10_gapOf_71 ?_
        obtain ⟨r_10, hc_11, hF⟩ := bn_some hF
        refine xc_v (wn := (w_X10_gapOf K g_t g_t_radar g_t_draft g_t_text g_t_reader g_t_history g_t_echoes g_t_tracks g_t_dwelling g_t_chooser g_t_adviser t_radar_gapCount t_radar_targetCount t_radar_lookCount t_radar_time t_radar_gone t_radar_gaps t_radar_settings t_radar_spots t_radar_speeds t_radar_strengths t_echoes_shownCount r_10.1 r_10.2)) hP hD hS C0.2.2.1 [7, 8, 9, 1, 2, 3, 4, 5, 6] [0] [0, 4, 5, 6, 7, 8, 9, 1, 2, 3] rfl rfl (by decide) (by decide) rfl (by decide) (va_runV (As := [.ref (g_t_radar 0)]) (rest := []) C0.1 (c_X3_listen l D K g_t_echoes g_t_radar t_echoes_shownCount t_echoes_targets t_echoes_loud t_radar_gapCount t_radar_targetCount t_radar_lookCount t_radar_time t_radar_gone t_radar_gaps t_radar_settings t_radar_spots t_radar_speeds t_radar_strengths r_10 hc_11 H.size) (cwV 1 hts gX10_gapOf_X3_listen rfl rfl rfl (by decide +kernel) ⟨Nat.le_of_ble_eq_true rfl, Nat.le_of_ble_eq_true rfl⟩) (xp_V C0.2 hP hD hS [7, 8, 9, 1, 2, 3, 4, 5, 6] rfl (by decide) 3 0 rfl rfl rfl) rfl rfl hl.1 rfl (lv_room (Nat.le_of_ble_eq_true rfl)) dX10_gapOf_74 ⟨Nat.le_of_ble_eq_true rfl, Nat.le_of_ble_eq_true rfl⟩) (fun H locs hP hD hS => ?_)
        refine lv_aload_n hx hb dX10_gapOf_77 rfl (lv_at hl 1 rfl) ?_
        refine va_get (D := D) (ci := 9) (v := .ref (g_t_echoes 0)) (C := RX10) (T := TX10) (N := 14) hx hb hts iw_X10_gapOf_X10 hown hK hP 0 rfl rfl 8 (by decide) (hts _ fl_X10_gapOf_55) (fun _ h9 => h9) rfl dX10_gapOf_78 ?_
        refine lv_aload_n hx hb dX10_gapOf_81 rfl (lv_at hl 1 rfl) ?_
        refine va_get (D := D) (ci := 9) (v := .ref (g_t_radar 0)) (C := RX10) (T := TX10) (N := 14) hx hb hts iw_X10_gapOf_X10 hown hK hP 0 rfl rfl 0 (by decide) (hts _ fl_X10_gapOf_10) (fun _ h9 => h9) rfl dX10_gapOf_82 ?_
        refine lv_iload_n hx hb dX10_gapOf_85 rfl (lv_at hl 2 rfl) ?_
        obtain ⟨r_12, hc_13, hF⟩ := bn_some hF
        refine xc_i (wn := (w_X10_gapOf K g_t g_t_radar g_t_draft g_t_text g_t_reader g_t_history g_t_echoes g_t_tracks g_t_dwelling g_t_chooser g_t_adviser t_radar_gapCount t_radar_targetCount t_radar_lookCount t_radar_time t_radar_gone t_radar_gaps t_radar_settings t_radar_spots t_radar_speeds t_radar_strengths t_echoes_shownCount r_10.1 r_10.2)) hP hD hS C0.2.2.1 [7, 9, 1, 2, 3] [0, 4, 5, 6, 8] [0, 7, 8, 9, 1, 2, 3, 5, 4, 6] rfl rfl (by decide) (by decide) rfl (by decide) (va_runV (As := [.ref (g_t_radar 0), .int x1]) (rest := []) C0.1 (c_X3_countOfGap l D K g_t_echoes g_t_radar t_echoes_shownCount r_10.2 t_radar_gapCount t_radar_targetCount t_radar_lookCount t_radar_time t_radar_gone t_radar_gaps t_radar_settings x1 r_12 hc_13 H.size) (cwV 2 hts gX10_gapOf_X3_countOfGap rfl rfl rfl (by decide +kernel) ⟨Nat.le_of_ble_eq_true rfl, Nat.le_of_ble_eq_true rfl⟩) (xp_V C0.2 hP hD hS [7, 9, 1, 2, 3] rfl (by decide) 3 0 rfl rfl rfl) rfl rfl hl.1 rfl (lv_room (Nat.le_of_ble_eq_true rfl)) dX10_gapOf_86 ⟨Nat.le_of_ble_eq_true rfl, Nat.le_of_ble_eq_true rfl⟩) (fun H locs hP hD hS => ?_)
        obtain rfl := Option.some.inj hF
        exact HR 89 H locs ls dX10_gapOf_89 hP hD hS
      have hF := it_neg c_9 hF
      by_cases c_14 : x2 = (2 : Int32)
      · have hF := it_pos c_14 hF
        refine lv_tableIn (off := 51) (tgt := 90) hx hb dX10_gapOf_39 (by rw [c_14]; decide) (by rw [c_14]; decide) (by rw [c_14]; rfl) (by decide) ?_
        refine lv_aload_n hx hb dX10_gapOf_90 rfl (lv_at hl 1 rfl) ?_
        refine va_get (D := D) (ci := 9) (v := .ref (g_t_radar 0)) (C := RX10) (T := TX10) (N := 14) hx hb hts iw_X10_gapOf_X10 hown hK hP 0 rfl rfl 0 (by decide) (hts _ fl_X10_gapOf_10) (fun _ h9 => h9) rfl dX10_gapOf_91 ?_
        refine lv_iload_n hx hb dX10_gapOf_94 rfl (lv_at hl 0 rfl) ?_
        obtain ⟨r_15, hc_16, hF⟩ := bn_some hF
        refine xc_i (wn := (w_X10_gapOf K g_t g_t_radar g_t_draft g_t_text g_t_reader g_t_history g_t_echoes g_t_tracks g_t_dwelling g_t_chooser g_t_adviser t_radar_gapCount t_radar_targetCount t_radar_lookCount t_radar_time t_radar_gone t_radar_gaps t_radar_settings t_radar_spots t_radar_speeds t_radar_strengths t_echoes_shownCount t_echoes_targets t_echoes_loud)) hP hD hS C0.2.2.1 [1, 3, 4, 5] [0, 2, 6, 7, 8, 9] [0, 6, 1, 7, 8, 9, 2, 3, 4, 5] rfl rfl (by decide) (by decide) rfl (by decide) (va_runV (As := [.int (t_radar_gaps (x1).toNatClampNeg)]) (rest := []) C0.1 (c_X5_targetsSeenBy l D K g_t_radar t_radar_gapCount t_radar_targetCount t_radar_lookCount t_radar_time t_radar_gone t_radar_settings t_radar_spots t_radar_speeds (t_radar_gaps (x1).toNatClampNeg) r_15 hc_16 H.size) (cwV 1 hts gX10_gapOf_X5_targetsSeenBy rfl rfl rfl (by decide +kernel) ⟨Nat.le_of_ble_eq_true rfl, Nat.le_of_ble_eq_true rfl⟩) (xp_V C0.2 hP hD hS [1, 3, 4, 5] rfl (by decide) 5 0 rfl rfl rfl) rfl rfl hl.1 rfl (lv_room (Nat.le_of_ble_eq_true rfl)) dX10_gapOf_95 ⟨Nat.le_of_ble_eq_true rfl, Nat.le_of_ble_eq_true rfl⟩) (fun H locs hP hD hS => ?_)
        obtain rfl := Option.some.inj hF
        exact HR 98 H locs ls dX10_gapOf_98 hP hD hS
      have hF := it_neg c_14 hF
      have qc_8 := lv_neT (a := 0) c_8 (by decide)
      have qc_9 := lv_neT (a := 1) c_9 (by decide)
      have qc_14 := lv_neT (a := 2) c_14 (by decide)
      refine lv_tableOut (tgt := 99) hx hb dX10_gapOf_39 (by omega) (by decide) ?_
      refine lv_aload_n hx hb dX10_gapOf_99 rfl (lv_at hl 1 rfl) ?_
      refine va_get (D := D) (ci := 9) (v := .ref (g_t_radar 0)) (C := RX10) (T := TX10) (N := 14) hx hb hts iw_X10_gapOf_X10 hown hK hP 0 rfl rfl 0 (by decide) (hts _ fl_X10_gapOf_10) (fun _ h9 => h9) rfl dX10_gapOf_100 ?_
      refine lv_iload_n hx hb dX10_gapOf_103 rfl (lv_at hl 0 rfl) ?_
      obtain ⟨r_18, hc_19, hF⟩ := bn_some hF
      refine xc_i (wn := (w_X10_gapOf K g_t g_t_radar g_t_draft g_t_text g_t_reader g_t_history g_t_echoes g_t_tracks g_t_dwelling g_t_chooser g_t_adviser t_radar_gapCount t_radar_targetCount t_radar_lookCount t_radar_time t_radar_gone t_radar_gaps t_radar_settings t_radar_spots t_radar_speeds t_radar_strengths t_echoes_shownCount t_echoes_targets t_echoes_loud)) hP hD hS C0.2.2.1 [1, 3] [0, 2, 4, 5, 6, 7, 8, 9] [0, 8, 1, 9, 2, 3, 4, 5, 6, 7] rfl rfl (by decide) (by decide) rfl (by decide) (va_runS (As := [.ref (g_t_radar 0), .int (t_radar_gaps (x1).toNatClampNeg)]) (rest := []) C0.1 (c_X7_countBlind l D K g_t_radar t_radar_gapCount t_radar_targetCount t_radar_lookCount t_radar_time t_radar_gone t_radar_settings (t_radar_gaps (x1).toNatClampNeg) r_18 hc_19 H.size) (va_cwS 2 hts gX10_gapOf_X7_countBlind rfl rfl rfl (by decide +kernel) ⟨Nat.le_of_ble_eq_true rfl, Nat.le_of_ble_eq_true rfl⟩) (xp_S C0.2 hP hD hS [1, 3] rfl (by decide)) rfl rfl hl.1 rfl (lv_room (Nat.le_of_ble_eq_true rfl)) dX10_gapOf_104 ⟨Nat.le_of_ble_eq_true rfl, Nat.le_of_ble_eq_true rfl⟩) (fun H locs hP hD hS => ?_)
      obtain rfl := Option.some.inj hF
      exact HR 107 H locs ls dX10_gapOf_107 hP hD hS
    · have hF := it_pos c_6 hF
      exact no_s hF

/-! StaggerRadar.targetOf(II)I -/
abbrev rmX10_targetOf : Room := { frames := 5, cells := 0, slots := 0, locals := 115 }
theorem fl_X10_targetOf_10 : Cond.fieldLink RX10 10 "StaggerRadar" "radar" "LStaggerRadar$Radar;" ∈ wsX10_targetOf := by decide +kernel
theorem fl_X10_targetOf_55 : Cond.fieldLink RX10 55 "StaggerRadar" "echoes" "LStaggerRadar$Echoes;" ∈ wsX10_targetOf := by decide +kernel
theorem fl_X10_targetOf_254 : Cond.fieldLink RX10 254 "StaggerRadar$Radar" "spots" "[I" ∈ wsX10_targetOf := by decide +kernel
theorem fl_X10_targetOf_257 : Cond.fieldLink RX10 257 "StaggerRadar$Radar" "speeds" "[I" ∈ wsX10_targetOf := by decide +kernel
theorem fl_X10_targetOf_260 : Cond.fieldLink RX10 260 "StaggerRadar$Radar" "strengths" "[I" ∈ wsX10_targetOf := by decide +kernel
theorem iw_X10_targetOf_X10 : ∀ w ∈ u_ws RX10 TX10 14, w ∈ wsX10_targetOf := by decide +kernel
theorem iw_X10_targetOf_X3 : ∀ w ∈ u_ws RX3 TX3 6, w ∈ wsX10_targetOf := by decide +kernel
theorem iw_X10_targetOf_X5 : ∀ w ∈ u_ws RX5 TX5 13, w ∈ wsX10_targetOf := by decide +kernel
abbrev w_X10_targetOf (K : Nat → ClassId) (g_t : Nat → Nat) (g_t_radar : Nat → Nat) (g_t_draft : Nat → Nat) (g_t_text : Nat → Nat) (g_t_reader : Nat → Nat) (g_t_history : Nat → Nat) (g_t_echoes : Nat → Nat) (g_t_tracks : Nat → Nat) (g_t_dwelling : Nat → Nat) (g_t_chooser : Nat → Nat) (g_t_adviser : Nat → Nat) (t_radar_gapCount : Int32) (t_radar_targetCount : Int32) (t_radar_lookCount : Int32) (t_radar_time : Int32) (t_radar_gone : Int32) (t_radar_gaps : Nat → Int32) (t_radar_settings : Nat → Int32) (t_radar_spots : Nat → Int32) (t_radar_speeds : Nat → Int32) (t_radar_strengths : Nat → Int32) (t_echoes_shownCount : Int32) (t_echoes_targets : Nat → Int32) (t_echoes_loud : Nat → Int32) : va_W := [((g_t 0), .inr (9, [.ref (g_t_radar 0), .ref (g_t_draft 0), .ref (g_t_text 0), .ref (g_t_reader 0), .ref (g_t_history 0), .ref (g_t 6), .ref (g_t 7), .ref (g_t 8), .ref (g_t_echoes 0), .ref (g_t_tracks 0), .ref (g_t_dwelling 0), .ref (g_t_chooser 0), .ref (g_t_adviser 0), .ref (g_t 14)])), ((g_t_radar 0), .inr (5, [.ref (g_t_radar 1), .ref (g_t_radar 2), .ref (g_t_radar 3), .ref (g_t_radar 4), .ref (g_t_radar 5), .ref (g_t_radar 6), .ref (g_t_radar 7), .ref (g_t_radar 8), .int t_radar_gapCount, .int t_radar_targetCount, .int t_radar_lookCount, .int t_radar_time, .int t_radar_gone])), ((g_t_radar 1), .inl (K 0, 5, .inl t_radar_gaps)), ((g_t_radar 2), .inl (K 0, 7, .inl t_radar_settings)), ((g_t_radar 3), .inl (K 0, 8, .inl t_radar_spots)), ((g_t_radar 4), .inl (K 0, 8, .inl t_radar_speeds)), ((g_t_radar 5), .inl (K 0, 8, .inl t_radar_strengths)), ((g_t_echoes 0), .inr (3, [.ref (g_t_echoes 1), .ref (g_t_echoes 2), .ref (g_t_echoes 3), .ref (g_t_echoes 4), .ref (g_t_echoes 5), .int t_echoes_shownCount])), ((g_t_echoes 1), .inl (K 0, 300, .inl t_echoes_targets)), ((g_t_echoes 2), .inl (K 0, 300, .inl t_echoes_loud))]
def F_X10_targetOf (t_radar_gapCount : Int32) (t_radar_targetCount : Int32) (t_radar_gaps : Nat → Int32) (t_radar_settings : Nat → Int32) (t_radar_spots : Nat → Int32) (t_radar_speeds : Nat → Int32) (t_radar_strengths : Nat → Int32) (t_echoes_targets : Nat → Int32) (t_echoes_loud : Nat → Int32) (x1 : Int32) (x2 : Int32) : Option (Int32 × (Nat → Int32) × (Nat → Int32)) :=
  (F_X5_hasTarget t_radar_targetCount x1).bind fun r_1 => (if r_1 = (0 : Int32) then (none) else ((F_X10_isWithin x2 (0 : Int32) (6 : Int32)).bind fun r_4 => (if r_4 = (0 : Int32) then (none) else (if x2 = (0 : Int32) then ((F_X5_rangeOf t_radar_spots x1).bind fun r_8 => (some (r_8, t_echoes_targets, t_echoes_loud))) else (if x2 = (1 : Int32) then (gd_ (in_b x1 8) (some ((t_radar_spots (x1).toNatClampNeg), t_echoes_targets, t_echoes_loud))) else (if x2 = (2 : Int32) then (gd_ (in_b x1 8) (some ((t_radar_speeds (x1).toNatClampNeg), t_echoes_targets, t_echoes_loud))) else (if x2 = (3 : Int32) then (gd_ (in_b x1 8) (some ((t_radar_strengths (x1).toNatClampNeg), t_echoes_targets, t_echoes_loud))) else (if x2 = (4 : Int32) then ((F_X5_gapsThatSee t_radar_gapCount t_radar_gaps t_radar_settings t_radar_spots t_radar_speeds x1).bind fun r_17 => (some (r_17, t_echoes_targets, t_echoes_loud))) else (if x2 = (5 : Int32) then (gd_ (in_b x1 8) ((F_X7_blindGaps t_radar_gapCount t_radar_gaps t_radar_settings (t_radar_speeds (x1).toNatClampNeg)).bind fun r_21 => (some (r_21, t_echoes_targets, t_echoes_loud)))) else ((F_X3_listen t_echoes_targets t_echoes_loud t_radar_gapCount t_radar_targetCount t_radar_gaps t_radar_settings t_radar_spots t_radar_speeds t_radar_strengths).bind fun r_24 => ((F_X3_standingOf r_24.2 t_radar_gapCount t_radar_gaps t_radar_settings t_radar_spots x1).bind fun r_26 => (some (r_26, r_24.1, r_24.2)))))))))))))
set_option maxHeartbeats 4000000 in
set_option maxRecDepth 100000 in
theorem c_X10_targetOf (l : Launch) (D : va_G) (K : Nat → ClassId) (g_t : Nat → Nat) (g_t_radar : Nat → Nat) (g_t_draft : Nat → Nat) (g_t_text : Nat → Nat) (g_t_reader : Nat → Nat) (g_t_history : Nat → Nat) (g_t_echoes : Nat → Nat) (g_t_tracks : Nat → Nat) (g_t_dwelling : Nat → Nat) (g_t_chooser : Nat → Nat) (g_t_adviser : Nat → Nat) (t_radar_gapCount : Int32) (t_radar_targetCount : Int32) (t_radar_lookCount : Int32) (t_radar_time : Int32) (t_radar_gone : Int32) (t_radar_gaps : Nat → Int32) (t_radar_settings : Nat → Int32) (t_radar_spots : Nat → Int32) (t_radar_speeds : Nat → Int32) (t_radar_strengths : Nat → Int32) (t_echoes_shownCount : Int32) (t_echoes_targets : Nat → Int32) (t_echoes_loud : Nat → Int32) (x1 : Int32) (x2 : Int32) (res : Int32 × (Nat → Int32) × (Nat → Int32)) (hF : F_X10_targetOf t_radar_gapCount t_radar_targetCount t_radar_gaps t_radar_settings t_radar_spots t_radar_speeds t_radar_strengths t_echoes_targets t_echoes_loud x1 x2 = some res) :
    Mi_ l yX10_targetOf wsX10_targetOf rmX10_targetOf D K [.ref (g_t 0), .int x1, .int x2] (w_X10_targetOf K g_t g_t_radar g_t_draft g_t_text g_t_reader g_t_history g_t_echoes g_t_tracks g_t_dwelling g_t_chooser g_t_adviser t_radar_gapCount t_radar_targetCount t_radar_lookCount t_radar_time t_radar_gone t_radar_gaps t_radar_settings t_radar_spots t_radar_speeds t_radar_strengths t_echoes_shownCount t_echoes_targets t_echoes_loud) (w_X10_targetOf K g_t g_t_radar g_t_draft g_t_text g_t_reader g_t_history g_t_echoes g_t_tracks g_t_dwelling g_t_chooser g_t_adviser t_radar_gapCount t_radar_targetCount t_radar_lookCount t_radar_time t_radar_gone t_radar_gaps t_radar_settings t_radar_spots t_radar_speeds t_radar_strengths t_echoes_shownCount res.2.1 res.2.2) (res.1) := by
  refine en_i (cc := cX10_targetOf) (maxL := 3) (own := RX10) (by decide) rfl rfl (Nat.le_of_ble_eq_true rfl) ?_
  intro p e s m args below meth c A Q H locs ls C0 hP hD hS hl HR
  obtain ⟨⟨hx, hb, hml, hown, hts⟩, hK, -⟩ := id C0
  have hl : lv_has ls 3 [(0, .ref (g_t 0)), (1, .int x1), (2, .int x2)] := hl
  unfold F_X10_targetOf at hF
  refine lv_aload_n hx hb dX10_targetOf_0 rfl (lv_at hl 0 rfl) ?_
  refine va_get (D := D) (ci := 9) (v := .ref (g_t_radar 0)) (C := RX10) (T := TX10) (N := 14) hx hb hts iw_X10_targetOf_X10 hown hK hP 0 rfl rfl 0 (by decide) (hts _ fl_X10_targetOf_10) (fun _ h9 => h9) rfl dX10_targetOf_1 ?_
  refine lv_iload_n hx hb dX10_targetOf_4 rfl (lv_at hl 1 rfl) ?_
  obtain ⟨r_1, hc_2, hF⟩ := bn_some hF
  refine xc_i (wn := (w_X10_targetOf K g_t g_t_radar g_t_draft g_t_text g_t_reader g_t_history g_t_echoes g_t_tracks g_t_dwelling g_t_chooser g_t_adviser t_radar_gapCount t_radar_targetCount t_radar_lookCount t_radar_time t_radar_gone t_radar_gaps t_radar_settings t_radar_spots t_radar_speeds t_radar_strengths t_echoes_shownCount t_echoes_targets t_echoes_loud)) hP hD hS C0.2.2.1 [1] [0, 2, 3, 4, 5, 6, 7, 8, 9] [0, 9, 1, 2, 3, 4, 5, 6, 7, 8] rfl rfl (by decide) (by decide) rfl (by decide) (va_runV (As := [.int x1]) (rest := []) C0.1 (c_X5_hasTarget l D K g_t_radar t_radar_gapCount t_radar_targetCount t_radar_lookCount t_radar_time t_radar_gone x1 r_1 hc_2 H.size) (cwV 1 hts gX10_targetOf_X5_hasTarget rfl rfl rfl (by decide +kernel) ⟨Nat.le_of_ble_eq_true rfl, Nat.le_of_ble_eq_true rfl⟩) (xp_V C0.2 hP hD hS [1] rfl (by decide) 5 0 rfl rfl rfl) rfl rfl hl.1 rfl (lv_room (Nat.le_of_ble_eq_true rfl)) dX10_targetOf_5 ⟨Nat.le_of_ble_eq_true rfl, Nat.le_of_ble_eq_true rfl⟩) (fun H locs hP hD hS => ?_)
  refine lv_if_eq (tgt := 21) hx hb dX10_targetOf_8 (by decide) (fun c_3 => ?_) (fun c_3 => ?_)
  · have hF := it_pos c_3 hF
    exact no_s hF
  · have hF := it_neg c_3 hF
    refine lv_iload_n hx hb dX10_targetOf_11 rfl (lv_at hl 2 rfl) ?_
    refine lv_iconst (v := 0) hx hb dX10_targetOf_12 (by decide) ?_
    refine lv_bipush (v := 6) hx hb dX10_targetOf_13 (by decide) ?_
    obtain ⟨r_4, hc_5, hF⟩ := bn_some hF
    refine xc_i (wn := (w_X10_targetOf K g_t g_t_radar g_t_draft g_t_text g_t_reader g_t_history g_t_echoes g_t_tracks g_t_dwelling g_t_chooser g_t_adviser t_radar_gapCount t_radar_targetCount t_radar_lookCount t_radar_time t_radar_gone t_radar_gaps t_radar_settings t_radar_spots t_radar_speeds t_radar_strengths t_echoes_shownCount t_echoes_targets t_echoes_loud)) hP hD hS C0.2.2.1 [] [0, 1, 2, 3, 4, 5, 6, 7, 8, 9] [0, 1, 2, 3, 4, 5, 6, 7, 8, 9] rfl rfl (by decide) (by decide) rfl (by decide) (va_runS (As := [.int x2, .int (0 : Int32), .int (6 : Int32)]) (rest := []) C0.1 (c_X10_isWithin l D K x2 (0 : Int32) (6 : Int32) r_4 hc_5 H.size) (va_cwS 3 hts gX10_targetOf_X10_isWithin rfl rfl rfl (by decide +kernel) ⟨Nat.le_of_ble_eq_true rfl, Nat.le_of_ble_eq_true rfl⟩) (xp_S C0.2 hP hD hS [] rfl (by decide)) rfl rfl hl.1 rfl (lv_room (Nat.le_of_ble_eq_true rfl)) dX10_targetOf_15 ⟨Nat.le_of_ble_eq_true rfl, Nat.le_of_ble_eq_true rfl⟩) (fun H locs hP hD hS => ?_)
    refine lv_if_ne (tgt := 29) hx hb dX10_targetOf_18 (by decide) (fun c_6 => ?_) (fun c_6 => ?_)
    · have hF := it_neg c_6 hF
      refine lv_iload_n hx hb dX10_targetOf_29 rfl (lv_at hl 2 rfl) ?_
      by_cases c_7 : x2 = (0 : Int32)
      · have hF := it_pos c_7 hF
        refine lv_tableIn (off := 38) (tgt := 68) hx hb dX10_targetOf_30 (by rw [c_7]; decide) (by rw [c_7]; decide) (by rw [c_7]; rfl) (by decide) ?_
        refine lv_aload_n hx hb dX10_targetOf_68 rfl (lv_at hl 0 rfl) ?_
        refine va_get (D := D) (ci := 9) (v := .ref (g_t_radar 0)) (C := RX10) (T := TX10) (N := 14) hx hb hts iw_X10_targetOf_X10 hown hK hP 0 rfl rfl 0 (by decide) (hts _ fl_X10_targetOf_10) (fun _ h9 => h9) rfl dX10_targetOf_69 ?_
        refine lv_iload_n hx hb dX10_targetOf_72 rfl (lv_at hl 1 rfl) ?_
        obtain ⟨r_8, hc_9, hF⟩ := bn_some hF
        refine xc_i (wn := (w_X10_targetOf K g_t g_t_radar g_t_draft g_t_text g_t_reader g_t_history g_t_echoes g_t_tracks g_t_dwelling g_t_chooser g_t_adviser t_radar_gapCount t_radar_targetCount t_radar_lookCount t_radar_time t_radar_gone t_radar_gaps t_radar_settings t_radar_spots t_radar_speeds t_radar_strengths t_echoes_shownCount t_echoes_targets t_echoes_loud)) hP hD hS C0.2.2.1 [1, 4] [0, 2, 3, 5, 6, 7, 8, 9] [0, 8, 1, 2, 9, 3, 4, 5, 6, 7] rfl rfl (by decide) (by decide) rfl (by decide) (va_runV (As := [.int x1]) (rest := []) C0.1 (c_X5_rangeOf l D K g_t_radar t_radar_gapCount t_radar_targetCount t_radar_lookCount t_radar_time t_radar_gone t_radar_spots x1 r_8 hc_9 H.size) (cwV 1 hts gX10_targetOf_X5_rangeOf rfl rfl rfl (by decide +kernel) ⟨Nat.le_of_ble_eq_true rfl, Nat.le_of_ble_eq_true rfl⟩) (xp_V C0.2 hP hD hS [1, 4] rfl (by decide) 5 0 rfl rfl rfl) rfl rfl hl.1 rfl (lv_room (Nat.le_of_ble_eq_true rfl)) dX10_targetOf_73 ⟨Nat.le_of_ble_eq_true rfl, Nat.le_of_ble_eq_true rfl⟩) (fun H locs hP hD hS => ?_)
        obtain rfl := Option.some.inj hF
        exact HR 76 H locs ls dX10_targetOf_76 hP hD hS
      have hF := it_neg c_7 hF
      by_cases c_10 : x2 = (1 : Int32)
      · have hF := it_pos c_10 hF
        refine lv_tableIn (off := 47) (tgt := 77) hx hb dX10_targetOf_30 (by rw [c_10]; decide) (by rw [c_10]; decide) (by rw [c_10]; rfl) (by decide) ?_
        refine lv_aload_n hx hb dX10_targetOf_77 rfl (lv_at hl 0 rfl) ?_
        refine va_get (D := D) (ci := 9) (v := .ref (g_t_radar 0)) (C := RX10) (T := TX10) (N := 14) hx hb hts iw_X10_targetOf_X10 hown hK hP 0 rfl rfl 0 (by decide) (hts _ fl_X10_targetOf_10) (fun _ h9 => h9) rfl dX10_targetOf_78 ?_
        refine va_get (D := D) (ci := 5) (v := .ref (g_t_radar 3)) (C := RX5) (T := TX5) (N := 13) hx hb hts iw_X10_targetOf_X5 hown hK hP 1 rfl rfl 2 (by decide) (hts _ fl_X10_targetOf_254) (fun _ h9 => h9) rfl dX10_targetOf_81 ?_
        refine lv_iload_n hx hb dX10_targetOf_84 rfl (lv_at hl 1 rfl) ?_
        obtain ⟨hg_11, hF⟩ := gd_some hF
        refine xl_i (f := t_radar_spots) hx hb hK hP 4 0 rfl rfl rfl (in_v hg_11) dX10_targetOf_85 ?_
        obtain rfl := Option.some.inj hF
        exact HR 86 H locs ls dX10_targetOf_86 hP hD hS
      have hF := it_neg c_10 hF
      by_cases c_12 : x2 = (2 : Int32)
      · have hF := it_pos c_12 hF
        refine lv_tableIn (off := 57) (tgt := 87) hx hb dX10_targetOf_30 (by rw [c_12]; decide) (by rw [c_12]; decide) (by rw [c_12]; rfl) (by decide) ?_
        refine lv_aload_n hx hb dX10_targetOf_87 rfl (lv_at hl 0 rfl) ?_
        refine va_get (D := D) (ci := 9) (v := .ref (g_t_radar 0)) (C := RX10) (T := TX10) (N := 14) hx hb hts iw_X10_targetOf_X10 hown hK hP 0 rfl rfl 0 (by decide) (hts _ fl_X10_targetOf_10) (fun _ h9 => h9) rfl dX10_targetOf_88 ?_
        refine va_get (D := D) (ci := 5) (v := .ref (g_t_radar 4)) (C := RX5) (T := TX5) (N := 13) hx hb hts iw_X10_targetOf_X5 hown hK hP 1 rfl rfl 3 (by decide) (hts _ fl_X10_targetOf_257) (fun _ h9 => h9) rfl dX10_targetOf_91 ?_
        refine lv_iload_n hx hb dX10_targetOf_94 rfl (lv_at hl 1 rfl) ?_
        obtain ⟨hg_13, hF⟩ := gd_some hF
        refine xl_i (f := t_radar_speeds) hx hb hK hP 5 0 rfl rfl rfl (in_v hg_13) dX10_targetOf_95 ?_
        obtain rfl := Option.some.inj hF
        exact HR 96 H locs ls dX10_targetOf_96 hP hD hS
      have hF := it_neg c_12 hF
      by_cases c_14 : x2 = (3 : Int32)
      · have hF := it_pos c_14 hF
        refine lv_tableIn (off := 67) (tgt := 97) hx hb dX10_targetOf_30 (by rw [c_14]; decide) (by rw [c_14]; decide) (by rw [c_14]; rfl) (by decide) ?_
        refine lv_aload_n hx hb dX10_targetOf_97 rfl (lv_at hl 0 rfl) ?_
        refine va_get (D := D) (ci := 9) (v := .ref (g_t_radar 0)) (C := RX10) (T := TX10) (N := 14) hx hb hts iw_X10_targetOf_X10 hown hK hP 0 rfl rfl 0 (by decide) (hts _ fl_X10_targetOf_10) (fun _ h9 => h9) rfl dX10_targetOf_98 ?_
        refine va_get (D := D) (ci := 5) (v := .ref (g_t_radar 5)) (C := RX5) (T := TX5) (N := 13) hx hb hts iw_X10_targetOf_X5 hown hK hP 1 rfl rfl 4 (by decide) (hts _ fl_X10_targetOf_260) (fun _ h9 => h9) rfl dX10_targetOf_101 ?_
        refine lv_iload_n hx hb dX10_targetOf_104 rfl (lv_at hl 1 rfl) ?_
        obtain ⟨hg_15, hF⟩ := gd_some hF
        refine xl_i (f := t_radar_strengths) hx hb hK hP 6 0 rfl rfl rfl (in_v hg_15) dX10_targetOf_105 ?_
        obtain rfl := Option.some.inj hF
        exact HR 106 H locs ls dX10_targetOf_106 hP hD hS
      have hF := it_neg c_14 hF
      by_cases c_16 : x2 = (4 : Int32)
      · have hF := it_pos c_16 hF
        refine lv_tableIn (off := 77) (tgt := 107) hx hb dX10_targetOf_30 (by rw [c_16]; decide) (by rw [c_16]; decide) (by rw [c_16]; rfl) (by decide) ?_
        refine lv_aload_n hx hb dX10_targetOf_107 rfl (lv_at hl 0 rfl) ?_
        refine va_get (D := D) (ci := 9) (v := .ref (g_t_radar 0)) (C := RX10) (T := TX10) (N := 14) hx hb hts iw_X10_targetOf_X10 hown hK hP 0 rfl rfl 0 (by decide) (hts _ fl_X10_targetOf_10) (fun _ h9 => h9) rfl dX10_targetOf_108 ?_
        refine lv_iload_n hx hb dX10_targetOf_111 rfl (lv_at hl 1 rfl) ?_
        obtain ⟨r_17, hc_18, hF⟩ := bn_some hF
        refine xc_i (wn := (w_X10_targetOf K g_t g_t_radar g_t_draft g_t_text g_t_reader g_t_history g_t_echoes g_t_tracks g_t_dwelling g_t_chooser g_t_adviser t_radar_gapCount t_radar_targetCount t_radar_lookCount t_radar_time t_radar_gone t_radar_gaps t_radar_settings t_radar_spots t_radar_speeds t_radar_strengths t_echoes_shownCount t_echoes_targets t_echoes_loud)) hP hD hS C0.2.2.1 [1, 2, 3, 4, 5] [0, 6, 7, 8, 9] [0, 5, 6, 7, 8, 9, 1, 2, 3, 4] rfl rfl (by decide) (by decide) rfl (by decide) (va_runV (As := [.int x1]) (rest := []) C0.1 (c_X5_gapsThatSee l D K g_t_radar t_radar_gapCount t_radar_targetCount t_radar_lookCount t_radar_time t_radar_gone t_radar_gaps t_radar_settings t_radar_spots t_radar_speeds x1 r_17 hc_18 H.size) (cwV 1 hts gX10_targetOf_X5_gapsThatSee rfl rfl rfl (by decide +kernel) ⟨Nat.le_of_ble_eq_true rfl, Nat.le_of_ble_eq_true rfl⟩) (xp_V C0.2 hP hD hS [1, 2, 3, 4, 5] rfl (by decide) 5 0 rfl rfl rfl) rfl rfl hl.1 rfl (lv_room (Nat.le_of_ble_eq_true rfl)) dX10_targetOf_112 ⟨Nat.le_of_ble_eq_true rfl, Nat.le_of_ble_eq_true rfl⟩) (fun H locs hP hD hS => ?_)
        obtain rfl := Option.some.inj hF
        exact HR 115 H locs ls dX10_targetOf_115 hP hD hS
      have hF := it_neg c_16 hF
      by_cases c_19 : x2 = (5 : Int32)
      · have hF := it_pos c_19 hF
        refine lv_tableIn (off := 86) (tgt := 116) hx hb dX10_targetOf_30 (by rw [c_19]; decide) (by rw [c_19]; decide) (by rw [c_19]; rfl) (by decide) ?_
        refine lv_aload_n hx hb dX10_targetOf_116 rfl (lv_at hl 0 rfl) ?_
        refine va_get (D := D) (ci := 9) (v := .ref (g_t_radar 0)) (C := RX10) (T := TX10) (N := 14) hx hb hts iw_X10_targetOf_X10 hown hK hP 0 rfl rfl 0 (by decide) (hts _ fl_X10_targetOf_10) (fun _ h9 => h9) rfl dX10_targetOf_117 ?_
        refine lv_aload_n hx hb dX10_targetOf_120 rfl (lv_at hl 0 rfl) ?_
        refine va_get (D := D) (ci := 9) (v := .ref (g_t_radar 0)) (C := RX10) (T := TX10) (N := 14) hx hb hts iw_X10_targetOf_X10 hown hK hP 0 rfl rfl 0 (by decide) (hts _ fl_X10_targetOf_10) (fun _ h9 => h9) rfl dX10_targetOf_121 ?_
        refine va_get (D := D) (ci := 5) (v := .ref (g_t_radar 4)) (C := RX5) (T := TX5) (N := 13) hx hb hts iw_X10_targetOf_X5 hown hK hP 1 rfl rfl 3 (by decide) (hts _ fl_X10_targetOf_257) (fun _ h9 => h9) rfl dX10_targetOf_124 ?_
        refine lv_iload_n hx hb dX10_targetOf_127 rfl (lv_at hl 1 rfl) ?_
        obtain ⟨hg_20, hF⟩ := gd_some hF
        refine xl_i (f := t_radar_speeds) hx hb hK hP 5 0 rfl rfl rfl (in_v hg_20) dX10_targetOf_128 ?_
        obtain ⟨r_21, hc_22, hF⟩ := bn_some hF
        refine xc_i (wn := (w_X10_targetOf K g_t g_t_radar g_t_draft g_t_text g_t_reader g_t_history g_t_echoes g_t_tracks g_t_dwelling g_t_chooser g_t_adviser t_radar_gapCount t_radar_targetCount t_radar_lookCount t_radar_time t_radar_gone t_radar_gaps t_radar_settings t_radar_spots t_radar_speeds t_radar_strengths t_echoes_shownCount t_echoes_targets t_echoes_loud)) hP hD hS C0.2.2.1 [1, 2, 3] [0, 4, 5, 6, 7, 8, 9] [0, 7, 8, 9, 1, 2, 3, 4, 5, 6] rfl rfl (by decide) (by decide) rfl (by decide) (va_runS (As := [.ref (g_t_radar 0), .int (t_radar_speeds (x1).toNatClampNeg)]) (rest := []) C0.1 (c_X7_blindGaps l D K g_t_radar t_radar_gapCount t_radar_targetCount t_radar_lookCount t_radar_time t_radar_gone t_radar_gaps t_radar_settings (t_radar_speeds (x1).toNatClampNeg) r_21 hc_22 H.size) (va_cwS 2 hts gX10_targetOf_X7_blindGaps rfl rfl rfl (by decide +kernel) ⟨Nat.le_of_ble_eq_true rfl, Nat.le_of_ble_eq_true rfl⟩) (xp_S C0.2 hP hD hS [1, 2, 3] rfl (by decide)) rfl rfl hl.1 rfl (lv_room (Nat.le_of_ble_eq_true rfl)) dX10_targetOf_129 ⟨Nat.le_of_ble_eq_true rfl, Nat.le_of_ble_eq_true rfl⟩) (fun H locs hP hD hS => ?_)
        obtain rfl := Option.some.inj hF
        exact HR 132 H locs ls dX10_targetOf_132 hP hD hS
      have hF := it_neg c_19 hF
      have qc_7 := lv_neT (a := 0) c_7 (by decide)
      have qc_10 := lv_neT (a := 1) c_10 (by decide)
      have qc_12 := lv_neT (a := 2) c_12 (by decide)
      have qc_14 := lv_neT (a := 3) c_14 (by decide)
      have qc_16 := lv_neT (a := 4) c_16 (by decide)
      have qc_19 := lv_neT (a := 5) c_19 (by decide)
      refine lv_tableOut (tgt := 133) hx hb dX10_targetOf_30 (by omega) (by decide) ?_
      refine lv_aload_n hx hb dX10_targetOf_133 rfl (lv_at hl 0 rfl) ?_
      refine va_get (D := D) (ci := 9) (v := .ref (g_t_echoes 0)) (C := RX10) (T := TX10) (N := 14) hx hb hts iw_X10_targetOf_X10 hown hK hP 0 rfl rfl 8 (by decide) (hts _ fl_X10_targetOf_55) (fun _ h9 => h9) rfl dX10_targetOf_134 ?_
      refine lv_aload_n hx hb dX10_targetOf_137 rfl (lv_at hl 0 rfl) ?_
      refine va_get (D := D) (ci := 9) (v := .ref (g_t_radar 0)) (C := RX10) (T := TX10) (N := 14) hx hb hts iw_X10_targetOf_X10 hown hK hP 0 rfl rfl 0 (by decide) (hts _ fl_X10_targetOf_10) (fun _ h9 => h9) rfl dX10_targetOf_138 ?_
      obtain ⟨r_24, hc_25, hF⟩ := bn_some hF
      refine xc_v (wn := (w_X10_targetOf K g_t g_t_radar g_t_draft g_t_text g_t_reader g_t_history g_t_echoes g_t_tracks g_t_dwelling g_t_chooser g_t_adviser t_radar_gapCount t_radar_targetCount t_radar_lookCount t_radar_time t_radar_gone t_radar_gaps t_radar_settings t_radar_spots t_radar_speeds t_radar_strengths t_echoes_shownCount r_24.1 r_24.2)) hP hD hS C0.2.2.1 [7, 8, 9, 1, 2, 3, 4, 5, 6] [0] [0, 4, 5, 6, 7, 8, 9, 1, 2, 3] rfl rfl (by decide) (by decide) rfl (by decide) (va_runV (As := [.ref (g_t_radar 0)]) (rest := []) C0.1 (c_X3_listen l D K g_t_echoes g_t_radar t_echoes_shownCount t_echoes_targets t_echoes_loud t_radar_gapCount t_radar_targetCount t_radar_lookCount t_radar_time t_radar_gone t_radar_gaps t_radar_settings t_radar_spots t_radar_speeds t_radar_strengths r_24 hc_25 H.size) (cwV 1 hts gX10_targetOf_X3_listen rfl rfl rfl (by decide +kernel) ⟨Nat.le_of_ble_eq_true rfl, Nat.le_of_ble_eq_true rfl⟩) (xp_V C0.2 hP hD hS [7, 8, 9, 1, 2, 3, 4, 5, 6] rfl (by decide) 3 0 rfl rfl rfl) rfl rfl hl.1 rfl (lv_room (Nat.le_of_ble_eq_true rfl)) dX10_targetOf_141 ⟨Nat.le_of_ble_eq_true rfl, Nat.le_of_ble_eq_true rfl⟩) (fun H locs hP hD hS => ?_)
      refine lv_aload_n hx hb dX10_targetOf_144 rfl (lv_at hl 0 rfl) ?_
      refine va_get (D := D) (ci := 9) (v := .ref (g_t_echoes 0)) (C := RX10) (T := TX10) (N := 14) hx hb hts iw_X10_targetOf_X10 hown hK hP 0 rfl rfl 8 (by decide) (hts _ fl_X10_targetOf_55) (fun _ h9 => h9) rfl dX10_targetOf_145 ?_
      refine lv_aload_n hx hb dX10_targetOf_148 rfl (lv_at hl 0 rfl) ?_
      refine va_get (D := D) (ci := 9) (v := .ref (g_t_radar 0)) (C := RX10) (T := TX10) (N := 14) hx hb hts iw_X10_targetOf_X10 hown hK hP 0 rfl rfl 0 (by decide) (hts _ fl_X10_targetOf_10) (fun _ h9 => h9) rfl dX10_targetOf_149 ?_
      refine lv_iload_n hx hb dX10_targetOf_152 rfl (lv_at hl 1 rfl) ?_
      obtain ⟨r_26, hc_27, hF⟩ := bn_some hF
      refine xc_i (wn := (w_X10_targetOf K g_t g_t_radar g_t_draft g_t_text g_t_reader g_t_history g_t_echoes g_t_tracks g_t_dwelling g_t_chooser g_t_adviser t_radar_gapCount t_radar_targetCount t_radar_lookCount t_radar_time t_radar_gone t_radar_gaps t_radar_settings t_radar_spots t_radar_speeds t_radar_strengths t_echoes_shownCount r_24.1 r_24.2)) hP hD hS C0.2.2.1 [7, 9, 1, 2, 3, 4] [0, 5, 6, 8] [0, 6, 7, 8, 9, 1, 2, 4, 3, 5] rfl rfl (by decide) (by decide) rfl (by decide) (va_runV (As := [.ref (g_t_radar 0), .int x1]) (rest := []) C0.1 (c_X3_standingOf l D K g_t_echoes g_t_radar t_echoes_shownCount r_24.2 t_radar_gapCount t_radar_targetCount t_radar_lookCount t_radar_time t_radar_gone t_radar_gaps t_radar_settings t_radar_spots x1 r_26 hc_27 H.size) (cwV 2 hts gX10_targetOf_X3_standingOf rfl rfl rfl (by decide +kernel) ⟨Nat.le_of_ble_eq_true rfl, Nat.le_of_ble_eq_true rfl⟩) (xp_V C0.2 hP hD hS [7, 9, 1, 2, 3, 4] rfl (by decide) 3 0 rfl rfl rfl) rfl rfl hl.1 rfl (lv_room (Nat.le_of_ble_eq_true rfl)) dX10_targetOf_153 ⟨Nat.le_of_ble_eq_true rfl, Nat.le_of_ble_eq_true rfl⟩) (fun H locs hP hD hS => ?_)
      obtain rfl := Option.some.inj hF
      exact HR 156 H locs ls dX10_targetOf_156 hP hD hS
    · have hF := it_pos c_6 hF
      exact no_s hF

theorem ev_gapOf {m : Nat → Int} {gc : Int32} {gaps st : Nat → Int32} {tc : Int32} {sp ve sr : Nat → Int32} (hg : WG m) (hw : WS m) (ht : WT m) (hG : cG m gc gaps) (hS : cS m st) (hT : cT m tc sp ve sr) (f1 f2 : Nat → Int32) {a b : Int} (ha : rg a) (hb : rg b) (c : 0 ≤ a ∧ a < m 0) (d : 0 ≤ b ∧ b ≤ 3) :
    ∃ g1 g2, F_X10_gapOf gc tc gaps st sp ve sr f1 f2 (iI a) (iI b) = some (qg_ m a.toNat b, g1, g2) := by
  obtain ⟨hn, h5⟩ := nG_c hg
  have h1 := hg.2.2.1 a.toNat (by omega)
  have e1 : F_X10_isWithin (iI b) (0 : Int32) (3 : Int32) = some (bI (decide (0 ≤ b ∧ b ≤ 3))) := ev_within (b := 0) (c := 3) hb (by omega) (by omega)
  unfold F_X10_gapOf
  rw [ev_hasGap hg hG.1 ha, bs_, ib_, if_pos (decide_eq_true c), e1, bs_, ib_, if_pos (decide_eq_true d), iN c.1, gN_ (by omega) (by decide), nI_clamp (by omega), hG.2 a.toNat (by omega), if_e (show (iI b = 0) = (b = 0) from iI_eq (b := 0) hb (by omega)), if_e (show (iI b = 1) = (b = 1) from iI_eq (b := 1) hb (by omega)), if_e (show (iI b = 2) = (b = 2) from iI_eq (b := 2) hb (by omega))]
  unfold qg_
  by_cases b0 : b = 0
  · rw [if_pos b0, if_pos b0]
    exact ⟨_, _, rfl⟩
  rw [if_neg b0, if_neg b0]
  by_cases b1 : b = 1
  · rw [if_pos b1, if_pos b1, ev_listen hg hw ht hG hS hT, bs_, ev_countOfGap hg hw ht hG hS (tL_ls m f2) (by omega), bs_]
    exact ⟨_, _, rfl⟩
  rw [if_neg b1, if_neg b1]
  by_cases b2 : b = 2
  · rw [if_pos b2, if_pos b2, ev_targetsSeenBy hw ht hS hT (by omega), bs_]
    exact ⟨_, _, rfl⟩
  rw [if_neg b2, if_neg b2, ev_countBlind hw hS (by omega), bs_]
  exact ⟨_, _, rfl⟩
theorem ev_targetOf {m : Nat → Int} {gc : Int32} {gaps st : Nat → Int32} {tc : Int32} {sp ve sr : Nat → Int32} (hg : WG m) (hw : WS m) (ht : WT m) (hG : cG m gc gaps) (hS : cS m st) (hT : cT m tc sp ve sr) (f1 f2 : Nat → Int32) {a b : Int} (ha : rg a) (hb : rg b) (c : 0 ≤ a ∧ a < m 13) (d : 0 ≤ b ∧ b ≤ 6) :
    ∃ g1 g2, F_X10_targetOf gc tc gaps st sp ve sr f1 f2 (iI a) (iI b) = some (qt_ m a.toNat b, g1, g2) := by
  obtain ⟨hn2, h8⟩ := nT_c ht
  have h1 := ht.2.2 a.toNat (by omega)
  have h3 := hT.2 a.toNat (by omega)
  have e1 : F_X10_isWithin (iI b) (0 : Int32) (6 : Int32) = some (bI (decide (0 ≤ b ∧ b ≤ 6))) := ev_within (b := 0) (c := 6) hb (by omega) (by omega)
  unfold F_X10_targetOf
  rw [ev_hasTarget ht hT.1 ha, bs_, ib_, if_pos (decide_eq_true c), e1, bs_, ib_, if_pos (decide_eq_true d), iN c.1, if_e (show (iI b = 0) = (b = 0) from iI_eq (b := 0) hb (by omega)), if_e (show (iI b = 1) = (b = 1) from iI_eq (b := 1) hb (by omega)), if_e (show (iI b = 2) = (b = 2) from iI_eq (b := 2) hb (by omega)), if_e (show (iI b = 3) = (b = 3) from iI_eq (b := 3) hb (by omega)), if_e (show (iI b = 4) = (b = 4) from iI_eq (b := 4) hb (by omega)), if_e (show (iI b = 5) = (b = 5) from iI_eq (b := 5) hb (by omega))]
  unfold qt_
  by_cases b0 : b = 0
  · rw [if_pos b0, if_pos b0, ev_rangeOf ht hT (by omega), bs_]
    exact ⟨_, _, rfl⟩
  rw [if_neg b0, if_neg b0]
  by_cases b1 : b = 1
  · rw [if_pos b1, if_pos b1, gN_ (by omega) (by decide), nI_clamp (by omega), h3.1]
    exact ⟨_, _, rfl⟩
  rw [if_neg b1, if_neg b1]
  by_cases b2 : b = 2
  · rw [if_pos b2, if_pos b2, gN_ (by omega) (by decide), nI_clamp (by omega), h3.2.1]
    exact ⟨_, _, rfl⟩
  rw [if_neg b2, if_neg b2]
  by_cases b3 : b = 3
  · rw [if_pos b3, if_pos b3, gN_ (by omega) (by decide), nI_clamp (by omega), h3.2.2]
    exact ⟨_, _, rfl⟩
  rw [if_neg b3, if_neg b3]
  by_cases b4 : b = 4
  · rw [if_pos b4, if_pos b4, ev_gapsThatSee hg hw ht hG hS hT (by omega), bs_]
    exact ⟨_, _, rfl⟩
  rw [if_neg b4, if_neg b4]
  by_cases b5 : b = 5
  · rw [if_pos b5, if_pos b5, gN_ (by omega) (by decide), nI_clamp (by omega), h3.2.1, ev_blindGaps hg hw hG hS h1.2.1, bs_]
    exact ⟨_, _, rfl⟩
  rw [if_neg b5, if_neg b5, ev_listen hg hw ht hG hS hT, bs_, ev_standingOf hg hw ht hG hS hT (tL_ls m f2) (by omega), bs_]
  exact ⟨_, _, rfl⟩
/-! ===== END ===== -/
