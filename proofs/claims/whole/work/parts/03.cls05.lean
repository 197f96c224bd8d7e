/-! StaggerRadar.Echoes.isFound(LStaggerRadar$Radar;I)Z -/
abbrev rmX3_isFound : Room := { frames := 2, cells := 0, slots := 0, locals := 47 }
theorem fl_X3_isFound_66 : Cond.fieldLink RX3 66 "StaggerRadar$Radar" "settings" "[I" ∈ wsX3_isFound := by decide +kernel
theorem iw_X3_isFound_X3 : ∀ w ∈ u_ws RX3 TX3 6, w ∈ wsX3_isFound := by decide +kernel
theorem iw_X3_isFound_X5 : ∀ w ∈ u_ws RX5 TX5 13, w ∈ wsX3_isFound := by decide +kernel
abbrev w_X3_isFound (K : Nat → ClassId) (g_t : Nat → Nat) (g_p1 : Nat → Nat) (t_shownCount : Int32) (t_loud : Nat → Int32) (p1_gapCount : Int32) (p1_targetCount : Int32) (p1_lookCount : Int32) (p1_time : Int32) (p1_gone : Int32) (p1_gaps : Nat → Int32) (p1_settings : Nat → Int32) : va_W := [((g_t 0), .inr (3, [.ref (g_t 1), .ref (g_t 2), .ref (g_t 3), .ref (g_t 4), .ref (g_t 5), .int t_shownCount])), ((g_t 2), .inl (K 0, 300, .inl t_loud)), ((g_p1 0), .inr (5, [.ref (g_p1 1), .ref (g_p1 2), .ref (g_p1 3), .ref (g_p1 4), .ref (g_p1 5), .ref (g_p1 6), .ref (g_p1 7), .ref (g_p1 8), .int p1_gapCount, .int p1_targetCount, .int p1_lookCount, .int p1_time, .int p1_gone])), ((g_p1 1), .inl (K 0, 5, .inl p1_gaps)), ((g_p1 2), .inl (K 0, 7, .inl p1_settings))]
def F_X3_isFound (t_loud : Nat → Int32) (p1_gapCount : Int32) (p1_gaps : Nat → Int32) (p1_settings : Nat → Int32) (x2 : Int32) : Option (Int32) :=
  if (p1_settings 3) ≤ x2 then (some (0 : Int32)) else ((F_X3_hitsOf t_loud p1_gapCount p1_gaps p1_settings x2).bind fun r_2 => ((F_J6_bitCount_0f7a4 r_2).bind fun r_4 => (if r_4 < (p1_settings 4) then (some (0 : Int32)) else (some (1 : Int32)))))
set_option maxHeartbeats 4000000 in
set_option maxRecDepth 100000 in
theorem c_X3_isFound (l : Launch) (D : va_G) (K : Nat → ClassId) (g_t : Nat → Nat) (g_p1 : Nat → Nat) (t_shownCount : Int32) (t_loud : Nat → Int32) (p1_gapCount : Int32) (p1_targetCount : Int32) (p1_lookCount : Int32) (p1_time : Int32) (p1_gone : Int32) (p1_gaps : Nat → Int32) (p1_settings : Nat → Int32) (x2 : Int32) (res : Int32) (hF : F_X3_isFound t_loud p1_gapCount p1_gaps p1_settings x2 = some res) :
    Mi_ l yX3_isFound wsX3_isFound rmX3_isFound D K [.ref (g_t 0), .ref (g_p1 0), .int x2] (w_X3_isFound K g_t g_p1 t_shownCount t_loud p1_gapCount p1_targetCount p1_lookCount p1_time p1_gone p1_gaps p1_settings) (w_X3_isFound K g_t g_p1 t_shownCount t_loud p1_gapCount p1_targetCount p1_lookCount p1_time p1_gone p1_gaps p1_settings) (res) := by
  refine en_z (cc := cX3_isFound) (maxL := 3) (own := RX3) (by decide) rfl rfl (Nat.le_of_ble_eq_true rfl) ?_
  intro p e s m args below meth c A Q H locs ls C0 hP hD hS hl HR
  obtain ⟨⟨hx, hb, hml, hown, hts⟩, hK, -⟩ := id C0
  have hl : lv_has ls 3 [(0, .ref (g_t 0)), (1, .ref (g_p1 0)), (2, .int x2)] := hl
  unfold F_X3_isFound at hF
  refine lv_iload_n hx hb dX3_isFound_0 rfl (lv_at hl 2 rfl) ?_
  refine lv_aload_n hx hb dX3_isFound_1 rfl (lv_at hl 1 rfl) ?_
  refine va_get (D := D) (ci := 5) (v := .ref (g_p1 2)) (C := RX5) (T := TX5) (N := 13) hx hb hts iw_X3_isFound_X5 hown hK hP 2 rfl rfl 1 (by decide) (hts _ fl_X3_isFound_66) (fun _ h9 => h9) rfl dX3_isFound_2 ?_
  refine lv_iconst (v := 3) hx hb dX3_isFound_5 (by decide) ?_
  refine xl_i (f := p1_settings) hx hb hK hP 4 0 rfl rfl (k := 3) (by decide) (in_v (by decide)) dX3_isFound_6 ?_
  refine lv_icmp_ge (tgt := 32) hx hb dX3_isFound_7 (by decide) (fun c_1 => ?_) (fun c_1 => ?_)
  · have hF := it_pos c_1 hF
    refine lv_iconst (v := 0) hx hb dX3_isFound_32 (by decide) ?_
    obtain rfl := Option.some.inj hF
    exact HR 33 H locs ls dX3_isFound_33 narrow_b0 hP hD hS
  · have hF := it_neg c_1 hF
    refine lv_aload_n hx hb dX3_isFound_10 rfl (lv_at hl 0 rfl) ?_
    refine lv_aload_n hx hb dX3_isFound_11 rfl (lv_at hl 1 rfl) ?_
    refine lv_iload_n hx hb dX3_isFound_12 rfl (lv_at hl 2 rfl) ?_
    obtain ⟨r_2, hc_3, hF⟩ := bn_some hF
    refine xc_i (wn := (w_X3_isFound K g_t g_p1 t_shownCount t_loud p1_gapCount p1_targetCount p1_lookCount p1_time p1_gone p1_gaps p1_settings)) hP hD hS C0.2.2.1 [0, 1, 2, 3, 4] [] [0, 1, 2, 3, 4] rfl rfl (by decide) (by decide) rfl (by decide) (va_runV (As := [.ref (g_p1 0), .int x2]) (rest := []) C0.1 (c_X3_hitsOf l D K g_t g_p1 t_shownCount t_loud p1_gapCount p1_targetCount p1_lookCount p1_time p1_gone p1_gaps p1_settings x2 r_2 hc_3 H.size) (cwV 2 hts gX3_isFound_X3_hitsOf rfl rfl rfl (by decide +kernel) ⟨Nat.le_of_ble_eq_true rfl, Nat.le_of_ble_eq_true rfl⟩) (xp_V C0.2 hP hD hS [0, 1, 2, 3, 4] rfl (by decide) 3 0 rfl rfl rfl) rfl rfl hl.1 rfl (lv_room (Nat.le_of_ble_eq_true rfl)) dX3_isFound_13 ⟨Nat.le_of_ble_eq_true rfl, Nat.le_of_ble_eq_true rfl⟩) (fun H locs hP hD hS => ?_)
    obtain ⟨r_4, hc_5, hF⟩ := bn_some hF
    refine xc_i (wn := (w_X3_isFound K g_t g_p1 t_shownCount t_loud p1_gapCount p1_targetCount p1_lookCount p1_time p1_gone p1_gaps p1_settings)) hP hD hS C0.2.2.1 [] [0, 1, 2, 3, 4] [0, 1, 2, 3, 4] rfl rfl (by decide) (by decide) rfl (by decide) (va_runS (As := [.int r_2]) (rest := []) C0.1 (c_J6_bitCount_0f7a4 l D K r_2 r_4 hc_5 H.size) (va_cwS 1 hts gX3_isFound_J6_bitCount_0f7a4 rfl rfl rfl (by decide +kernel) ⟨Nat.le_of_ble_eq_true rfl, Nat.le_of_ble_eq_true rfl⟩) (xp_S C0.2 hP hD hS [] rfl (by decide)) rfl rfl hl.1 rfl (lv_room (Nat.le_of_ble_eq_true rfl)) dX3_isFound_16 ⟨Nat.le_of_ble_eq_true rfl, Nat.le_of_ble_eq_true rfl⟩) (fun H locs hP hD hS => ?_)
    refine lv_aload_n hx hb dX3_isFound_19 rfl (lv_at hl 1 rfl) ?_
    refine va_get (D := D) (ci := 5) (v := .ref (g_p1 2)) (C := RX5) (T := TX5) (N := 13) hx hb hts iw_X3_isFound_X5 hown hK hP 2 rfl rfl 1 (by decide) (hts _ fl_X3_isFound_66) (fun _ h9 => h9) rfl dX3_isFound_20 ?_
    refine lv_iconst (v := 4) hx hb dX3_isFound_23 (by decide) ?_
    refine xl_i (f := p1_settings) hx hb hK hP 4 0 rfl rfl (k := 4) (by decide) (in_v (by decide)) dX3_isFound_24 ?_
    refine lv_icmp_lt (tgt := 32) hx hb dX3_isFound_25 (by decide) (fun c_6 => ?_) (fun c_6 => ?_)
    · have hF := it_pos c_6 hF
      refine lv_iconst (v := 0) hx hb dX3_isFound_32 (by decide) ?_
      obtain rfl := Option.some.inj hF
      exact HR 33 H locs ls dX3_isFound_33 narrow_b0 hP hD hS
    · have hF := it_neg c_6 hF
      refine lv_iconst (v := 1) hx hb dX3_isFound_28 (by decide) ?_
      refine lv_goto (tgt := 33) hx hb dX3_isFound_29 (by decide) ?_
      obtain rfl := Option.some.inj hF
      exact HR 33 H locs ls dX3_isFound_33 narrow_b1 hP hD hS

/-! StaggerRadar.Echoes.standingOf(LStaggerRadar$Radar;I)I -/
abbrev rmX3_standingOf : Room := { frames := 3, cells := 0, slots := 0, locals := 69 }
theorem fl_X3_standingOf_66 : Cond.fieldLink RX3 66 "StaggerRadar$Radar" "settings" "[I" ∈ wsX3_standingOf := by decide +kernel
theorem iw_X3_standingOf_X3 : ∀ w ∈ u_ws RX3 TX3 6, w ∈ wsX3_standingOf := by decide +kernel
theorem iw_X3_standingOf_X5 : ∀ w ∈ u_ws RX5 TX5 13, w ∈ wsX3_standingOf := by decide +kernel
abbrev w_X3_standingOf (K : Nat → ClassId) (g_t : Nat → Nat) (g_p1 : Nat → Nat) (t_shownCount : Int32) (t_loud : Nat → Int32) (p1_gapCount : Int32) (p1_targetCount : Int32) (p1_lookCount : Int32) (p1_time : Int32) (p1_gone : Int32) (p1_gaps : Nat → Int32) (p1_settings : Nat → Int32) (p1_spots : Nat → Int32) : va_W := [((g_t 0), .inr (3, [.ref (g_t 1), .ref (g_t 2), .ref (g_t 3), .ref (g_t 4), .ref (g_t 5), .int t_shownCount])), ((g_t 2), .inl (K 0, 300, .inl t_loud)), ((g_p1 0), .inr (5, [.ref (g_p1 1), .ref (g_p1 2), .ref (g_p1 3), .ref (g_p1 4), .ref (g_p1 5), .ref (g_p1 6), .ref (g_p1 7), .ref (g_p1 8), .int p1_gapCount, .int p1_targetCount, .int p1_lookCount, .int p1_time, .int p1_gone])), ((g_p1 1), .inl (K 0, 5, .inl p1_gaps)), ((g_p1 2), .inl (K 0, 7, .inl p1_settings)), ((g_p1 3), .inl (K 0, 8, .inl p1_spots))]
def F_X3_standingOf (t_loud : Nat → Int32) (p1_gapCount : Int32) (p1_gaps : Nat → Int32) (p1_settings : Nat → Int32) (p1_spots : Nat → Int32) (x2 : Int32) : Option (Int32) :=
  (F_X5_rangeOf p1_spots x2).bind fun r_1 => (if r_1 < (p1_settings 3) then ((F_X3_isFound t_loud p1_gapCount p1_gaps p1_settings r_1).bind fun r_4 => (if r_4 = (0 : Int32) then (some (0 : Int32)) else (some (1 : Int32)))) else (some (2 : Int32)))
set_option maxHeartbeats 4000000 in
set_option maxRecDepth 100000 in
theorem c_X3_standingOf (l : Launch) (D : va_G) (K : Nat → ClassId) (g_t : Nat → Nat) (g_p1 : Nat → Nat) (t_shownCount : Int32) (t_loud : Nat → Int32) (p1_gapCount : Int32) (p1_targetCount : Int32) (p1_lookCount : Int32) (p1_time : Int32) (p1_gone : Int32) (p1_gaps : Nat → Int32) (p1_settings : Nat → Int32) (p1_spots : Nat → Int32) (x2 : Int32) (res : Int32) (hF : F_X3_standingOf t_loud p1_gapCount p1_gaps p1_settings p1_spots x2 = some res) :
    Mi_ l yX3_standingOf wsX3_standingOf rmX3_standingOf D K [.ref (g_t 0), .ref (g_p1 0), .int x2] (w_X3_standingOf K g_t g_p1 t_shownCount t_loud p1_gapCount p1_targetCount p1_lookCount p1_time p1_gone p1_gaps p1_settings p1_spots) (w_X3_standingOf K g_t g_p1 t_shownCount t_loud p1_gapCount p1_targetCount p1_lookCount p1_time p1_gone p1_gaps p1_settings p1_spots) (res) := by
  refine en_i (cc := cX3_standingOf) (maxL := 4) (own := RX3) (by decide) rfl rfl (Nat.le_of_ble_eq_true rfl) ?_
  intro p e s m args below meth c A Q H locs ls C0 hP hD hS hl HR
  obtain ⟨⟨hx, hb, hml, hown, hts⟩, hK, -⟩ := id C0
  have hl : lv_has ls 4 [(0, .ref (g_t 0)), (1, .ref (g_p1 0)), (2, .int x2)] := hl
  unfold F_X3_standingOf at hF
  refine lv_aload_n hx hb dX3_standingOf_0 rfl (lv_at hl 1 rfl) ?_
  refine lv_iload_n hx hb dX3_standingOf_1 rfl (lv_at hl 2 rfl) ?_
  obtain ⟨r_1, hc_2, hF⟩ := bn_some hF
  refine xc_i (wn := (w_X3_standingOf K g_t g_p1 t_shownCount t_loud p1_gapCount p1_targetCount p1_lookCount p1_time p1_gone p1_gaps p1_settings p1_spots)) hP hD hS C0.2.2.1 [2, 5] [0, 1, 3, 4] [0, 1, 4, 2, 3, 5] rfl rfl (by decide) (by decide) rfl (by decide) (va_runV (As := [.int x2]) (rest := []) C0.1 (c_X5_rangeOf l D K g_p1 p1_gapCount p1_targetCount p1_lookCount p1_time p1_gone p1_spots x2 r_1 hc_2 H.size) (cwV 1 hts gX3_standingOf_X5_rangeOf rfl rfl rfl (by decide +kernel) ⟨Nat.le_of_ble_eq_true rfl, Nat.le_of_ble_eq_true rfl⟩) (xp_V C0.2 hP hD hS [2, 5] rfl (by decide) 5 0 rfl rfl rfl) rfl rfl hl.1 rfl (lv_room (Nat.le_of_ble_eq_true rfl)) dX3_standingOf_2 ⟨Nat.le_of_ble_eq_true rfl, Nat.le_of_ble_eq_true rfl⟩) (fun H locs hP hD hS => ?_)
  refine lv_istore_n (lv' := [(3, .int r_1), (0, .ref (g_t 0)), (1, .ref (g_p1 0)), (2, .int x2)]) hx hb dX3_standingOf_5 rfl hl (by decide) rfl (fun ls hl => ?_)
  refine lv_iload_n hx hb dX3_standingOf_6 rfl (lv_at hl 0 rfl) ?_
  refine lv_aload_n hx hb dX3_standingOf_7 rfl (lv_at hl 2 rfl) ?_
  refine va_get (D := D) (ci := 5) (v := .ref (g_p1 2)) (C := RX5) (T := TX5) (N := 13) hx hb hts iw_X3_standingOf_X5 hown hK hP 2 rfl rfl 1 (by decide) (hts _ fl_X3_standingOf_66) (fun _ h9 => h9) rfl dX3_standingOf_8 ?_
  refine lv_iconst (v := 3) hx hb dX3_standingOf_11 (by decide) ?_
  refine xl_i (f := p1_settings) hx hb hK hP 4 0 rfl rfl (k := 3) (by decide) (in_v (by decide)) dX3_standingOf_12 ?_
  refine lv_icmp_lt (tgt := 18) hx hb dX3_standingOf_13 (by decide) (fun c_3 => ?_) (fun c_3 => ?_)
  · have hF := it_pos c_3 hF
    refine lv_aload_n hx hb dX3_standingOf_18 rfl (lv_at hl 1 rfl) ?_
    refine lv_aload_n hx hb dX3_standingOf_19 rfl (lv_at hl 2 rfl) ?_
    refine lv_iload_n hx hb dX3_standingOf_20 rfl (lv_at hl 0 rfl) ?_
    obtain ⟨r_4, hc_5, hF⟩ := bn_some hF
    refine xc_i (wn := (w_X3_standingOf K g_t g_p1 t_shownCount t_loud p1_gapCount p1_targetCount p1_lookCount p1_time p1_gone p1_gaps p1_settings p1_spots)) hP hD hS C0.2.2.1 [0, 1, 2, 3, 4] [5] [1, 2, 3, 4, 5, 0] rfl rfl (by decide) (by decide) rfl (by decide) (va_runV (As := [.ref (g_p1 0), .int r_1]) (rest := []) C0.1 (c_X3_isFound l D K g_t g_p1 t_shownCount t_loud p1_gapCount p1_targetCount p1_lookCount p1_time p1_gone p1_gaps p1_settings r_1 r_4 hc_5 H.size) (cwV 2 hts gX3_standingOf_X3_isFound rfl rfl rfl (by decide +kernel) ⟨Nat.le_of_ble_eq_true rfl, Nat.le_of_ble_eq_true rfl⟩) (xp_V C0.2 hP hD hS [0, 1, 2, 3, 4] rfl (by decide) 3 0 rfl rfl rfl) rfl rfl hl.1 rfl (lv_room (Nat.le_of_ble_eq_true rfl)) dX3_standingOf_21 ⟨Nat.le_of_ble_eq_true rfl, Nat.le_of_ble_eq_true rfl⟩) (fun H locs hP hD hS => ?_)
    refine lv_if_eq (tgt := 31) hx hb dX3_standingOf_24 (by decide) (fun c_6 => ?_) (fun c_6 => ?_)
    · have hF := it_pos c_6 hF
      refine lv_iconst (v := 0) hx hb dX3_standingOf_31 (by decide) ?_
      obtain rfl := Option.some.inj hF
      exact HR 32 H locs ls dX3_standingOf_32 hP hD hS
    · have hF := it_neg c_6 hF
      refine lv_iconst (v := 1) hx hb dX3_standingOf_27 (by decide) ?_
      refine lv_goto (tgt := 32) hx hb dX3_standingOf_28 (by decide) ?_
      obtain rfl := Option.some.inj hF
      exact HR 32 H locs ls dX3_standingOf_32 hP hD hS
  · have hF := it_neg c_3 hF
    refine lv_iconst (v := 2) hx hb dX3_standingOf_16 (by decide) ?_
    obtain rfl := Option.some.inj hF
    exact HR 17 H locs ls dX3_standingOf_17 hP hD hS

/-! StaggerRadar.Echoes.missedTargets(LStaggerRadar$Radar;)I -/
abbrev rmX3_missedTargets : Room := { frames := 4, cells := 0, slots := 0, locals := 92 }
theorem fl_X3_missedTargets_48 : Cond.fieldLink RX3 48 "StaggerRadar$Radar" "targetCount" "I" ∈ wsX3_missedTargets := by decide +kernel
theorem iw_X3_missedTargets_X3 : ∀ w ∈ u_ws RX3 TX3 6, w ∈ wsX3_missedTargets := by decide +kernel
theorem iw_X3_missedTargets_X5 : ∀ w ∈ u_ws RX5 TX5 13, w ∈ wsX3_missedTargets := by decide +kernel
abbrev w_X3_missedTargets (K : Nat → ClassId) (g_t : Nat → Nat) (g_p1 : Nat → Nat) (t_shownCount : Int32) (t_loud : Nat → Int32) (p1_gapCount : Int32) (p1_targetCount : Int32) (p1_lookCount : Int32) (p1_time : Int32) (p1_gone : Int32) (p1_gaps : Nat → Int32) (p1_settings : Nat → Int32) (p1_spots : Nat → Int32) : va_W := [((g_t 0), .inr (3, [.ref (g_t 1), .ref (g_t 2), .ref (g_t 3), .ref (g_t 4), .ref (g_t 5), .int t_shownCount])), ((g_t 2), .inl (K 0, 300, .inl t_loud)), ((g_p1 0), .inr (5, [.ref (g_p1 1), .ref (g_p1 2), .ref (g_p1 3), .ref (g_p1 4), .ref (g_p1 5), .ref (g_p1 6), .ref (g_p1 7), .ref (g_p1 8), .int p1_gapCount, .int p1_targetCount, .int p1_lookCount, .int p1_time, .int p1_gone])), ((g_p1 1), .inl (K 0, 5, .inl p1_gaps)), ((g_p1 2), .inl (K 0, 7, .inl p1_settings)), ((g_p1 3), .inl (K 0, 8, .inl p1_spots))]
def L_X3_missedTargets_4 (t_loud : Nat → Int32) (p1_gapCount : Int32) (p1_targetCount : Int32) (p1_gaps : Nat → Int32) (p1_settings : Nat → Int32) (p1_spots : Nat → Int32) : Nat → Int32 → Int32 → Option (Int32)
  | 0, _, _ => none
  | n_ + 1, x2, x3 =>
    if p1_targetCount ≤ x3 then (some x2) else ((F_X3_standingOf t_loud p1_gapCount p1_gaps p1_settings p1_spots x3).bind fun r_2 => (if r_2 = (0 : Int32) then (L_X3_missedTargets_4 t_loud p1_gapCount p1_targetCount p1_gaps p1_settings p1_spots n_ (x2 ||| ((1 : Int32) <<< (x3 &&& 31))) (x3 + (1 : Int32))) else (L_X3_missedTargets_4 t_loud p1_gapCount p1_targetCount p1_gaps p1_settings p1_spots n_ x2 (x3 + (1 : Int32)))))
set_option maxHeartbeats 4000000 in
set_option maxRecDepth 100000 in
theorem w_X3_missedTargets_4 {p : Program} {l : Launch} {e : Env} {s : State} {m : MethodId} {args : Array Value} {below : List Frame} {meth : Method} {c : Code} {D : va_G} {K : Nat → ClassId} {A : Nat → Prop} {Q : State → Prop} (C0 : cx_ p s m args c cX3_missedTargets 4 RX3 wsX3_missedTargets D K A) {g_t : Nat → Nat} {g_p1 : Nat → Nat} {t_shownCount : Int32} {t_loud : Nat → Int32} {p1_gapCount : Int32} {p1_targetCount : Int32} {p1_lookCount : Int32} {p1_time : Int32} {p1_gone : Int32} {p1_gaps : Nat → Int32} {p1_settings : Nat → Int32} {p1_spots : Nat → Int32} {res : Int32} (HR : ∀ (pc : Nat) (H : Heap) (locs : List Loc) (ls : Array Slot), decode cX3_missedTargets pc = .ok (.ireturn, 1) → va_P D vwCl (w_X3_missedTargets K g_t g_p1 t_shownCount t_loud p1_gapCount p1_targetCount p1_lookCount p1_time p1_gone p1_gaps p1_settings p1_spots) H → va_D A (w_X3_missedTargets K g_t g_p1 t_shownCount t_loud p1_gapCount p1_targetCount p1_lookCount p1_time p1_gone p1_gaps p1_settings p1_spots) → va_S A s.heap H locs → W p l e rmX3_missedTargets s m args below meth c H locs 0 0 Q (F0 m pc ls [.int res]))  :
    ∀ (n_ : Nat) (x2 : Int32) (x3 : Int32) (H : Heap) (locs : List Loc) (ls : Array Slot), va_P D vwCl (w_X3_missedTargets K g_t g_p1 t_shownCount t_loud p1_gapCount p1_targetCount p1_lookCount p1_time p1_gone p1_gaps p1_settings p1_spots) H → va_D A (w_X3_missedTargets K g_t g_p1 t_shownCount t_loud p1_gapCount p1_targetCount p1_lookCount p1_time p1_gone p1_gaps p1_settings p1_spots) → va_S A s.heap H locs → lv_has ls 4 [(0, .ref (g_t 0)), (1, .ref (g_p1 0)), (2, .int x2), (3, .int x3)] → L_X3_missedTargets_4 t_loud p1_gapCount p1_targetCount p1_gaps p1_settings p1_spots n_ x2 x3 = some res → W p l e rmX3_missedTargets s m args below meth c H locs 0 0 Q (F0 m 4 ls []) := by
  obtain ⟨⟨hx, hb, hml, hown, hts⟩, hK, -⟩ := id C0
  intro n_
  induction n_ with
  | zero =>
    intro x2 x3 H locs ls hP hD hS hl hF
    exact no_s (show (none : Option (Int32)) = some res from hF)
  | succ n_ ih =>
    intro x2 x3 H locs ls hP hD hS hl hF
    rw [L_X3_missedTargets_4] at hF
    refine lv_iload_n hx hb dX3_missedTargets_4 rfl (lv_at hl 3 rfl) ?_
    refine lv_aload_n hx hb dX3_missedTargets_5 rfl (lv_at hl 1 rfl) ?_
    refine va_get (D := D) (ci := 5) (v := .int p1_targetCount) (C := RX5) (T := TX5) (N := 13) hx hb hts iw_X3_missedTargets_X5 hown hK hP 2 rfl rfl 9 (by decide) (hts _ fl_X3_missedTargets_48) (fun _ h9 => h9) rfl dX3_missedTargets_6 ?_
    refine lv_icmp_ge (tgt := 33) hx hb dX3_missedTargets_9 (by decide) (fun c_1 => ?_) (fun c_1 => ?_)
    · have hF := it_pos c_1 hF
      refine lv_iload_n hx hb dX3_missedTargets_33 rfl (lv_at hl 2 rfl) ?_
      obtain rfl := Option.some.inj hF
      exact HR 34 H locs ls dX3_missedTargets_34 hP hD hS
    · have hF := it_neg c_1 hF
      refine lv_aload_n hx hb dX3_missedTargets_12 rfl (lv_at hl 0 rfl) ?_
      refine lv_aload_n hx hb dX3_missedTargets_13 rfl (lv_at hl 1 rfl) ?_
      refine lv_iload_n hx hb dX3_missedTargets_14 rfl (lv_at hl 3 rfl) ?_
      obtain ⟨r_2, hc_3, hF⟩ := bn_some hF
      refine xc_i (wn := (w_X3_missedTargets K g_t g_p1 t_shownCount t_loud p1_gapCount p1_targetCount p1_lookCount p1_time p1_gone p1_gaps p1_settings p1_spots)) hP hD hS C0.2.2.1 [0, 1, 2, 3, 4, 5] [] [0, 1, 2, 3, 4, 5] rfl rfl (by decide) (by decide) rfl (by decide) (va_runV (As := [.ref (g_p1 0), .int x3]) (rest := []) C0.1 (c_X3_standingOf l D K g_t g_p1 t_shownCount t_loud p1_gapCount p1_targetCount p1_lookCount p1_time p1_gone p1_gaps p1_settings p1_spots x3 r_2 hc_3 H.size) (cwV 2 hts gX3_missedTargets_X3_standingOf rfl rfl rfl (by decide +kernel) ⟨Nat.le_of_ble_eq_true rfl, Nat.le_of_ble_eq_true rfl⟩) (xp_V C0.2 hP hD hS [0, 1, 2, 3, 4, 5] rfl (by decide) 3 0 rfl rfl rfl) rfl rfl hl.1 rfl (lv_room (Nat.le_of_ble_eq_true rfl)) dX3_missedTargets_15 ⟨Nat.le_of_ble_eq_true rfl, Nat.le_of_ble_eq_true rfl⟩) (fun H locs hP hD hS => ?_)
      refine lv_if_ne (tgt := 27) hx hb dX3_missedTargets_18 (by decide) (fun c_4 => ?_) (fun c_4 => ?_)
      · have hF := it_neg c_4 hF
        refine lv_iinc (v := (x3 + (1 : Int32))) (lv' := [(3, .int (x3 + (1 : Int32))), (0, .ref (g_t 0)), (1, .ref (g_p1 0)), (2, .int x2)]) hx hb dX3_missedTargets_27 hl (k := 3) rfl (congrArg (fun z => x3 + z) (by decide)) (by decide) rfl (fun ls hl => ?_)
        refine lv_goto (tgt := 4) hx hb dX3_missedTargets_30 (by decide) ?_
        exact ih x2 (x3 + (1 : Int32)) H locs ls hP hD hS (lv_sub hl [1, 2, 3, 0] rfl) hF
      · have hF := it_pos c_4 hF
        refine lv_iload_n hx hb dX3_missedTargets_21 rfl (lv_at hl 2 rfl) ?_
        refine lv_iconst (v := 1) hx hb dX3_missedTargets_22 (by decide) ?_
        refine lv_iload_n hx hb dX3_missedTargets_23 rfl (lv_at hl 3 rfl) ?_
        refine lv_ishl hx hb dX3_missedTargets_24 ?_
        refine lv_ior hx hb dX3_missedTargets_25 ?_
        refine lv_istore_n (lv' := [(2, .int (x2 ||| ((1 : Int32) <<< (x3 &&& 31)))), (0, .ref (g_t 0)), (1, .ref (g_p1 0)), (3, .int x3)]) hx hb dX3_missedTargets_26 rfl hl (by decide) rfl (fun ls hl => ?_)
        refine lv_iinc (v := (x3 + (1 : Int32))) (lv' := [(3, .int (x3 + (1 : Int32))), (2, .int (x2 ||| ((1 : Int32) <<< (x3 &&& 31)))), (0, .ref (g_t 0)), (1, .ref (g_p1 0))]) hx hb dX3_missedTargets_27 hl (k := 3) rfl (congrArg (fun z => x3 + z) (by decide)) (by decide) rfl (fun ls hl => ?_)
        refine lv_goto (tgt := 4) hx hb dX3_missedTargets_30 (by decide) ?_
        exact ih (x2 ||| ((1 : Int32) <<< (x3 &&& 31))) (x3 + (1 : Int32)) H locs ls hP hD hS (lv_sub hl [2, 3, 1, 0] rfl) hF
def F_X3_missedTargets (t_loud : Nat → Int32) (p1_gapCount : Int32) (p1_targetCount : Int32) (p1_gaps : Nat → Int32) (p1_settings : Nat → Int32) (p1_spots : Nat → Int32) : Option (Int32) :=
  L_X3_missedTargets_4 t_loud p1_gapCount p1_targetCount p1_gaps p1_settings p1_spots fu_ (0 : Int32) (0 : Int32)
set_option maxHeartbeats 4000000 in
set_option maxRecDepth 100000 in
theorem c_X3_missedTargets (l : Launch) (D : va_G) (K : Nat → ClassId) (g_t : Nat → Nat) (g_p1 : Nat → Nat) (t_shownCount : Int32) (t_loud : Nat → Int32) (p1_gapCount : Int32) (p1_targetCount : Int32) (p1_lookCount : Int32) (p1_time : Int32) (p1_gone : Int32) (p1_gaps : Nat → Int32) (p1_settings : Nat → Int32) (p1_spots : Nat → Int32) (res : Int32) (hF : F_X3_missedTargets t_loud p1_gapCount p1_targetCount p1_gaps p1_settings p1_spots = some res) :
    Mi_ l yX3_missedTargets wsX3_missedTargets rmX3_missedTargets D K [.ref (g_t 0), .ref (g_p1 0)] (w_X3_missedTargets K g_t g_p1 t_shownCount t_loud p1_gapCount p1_targetCount p1_lookCount p1_time p1_gone p1_gaps p1_settings p1_spots) (w_X3_missedTargets K g_t g_p1 t_shownCount t_loud p1_gapCount p1_targetCount p1_lookCount p1_time p1_gone p1_gaps p1_settings p1_spots) (res) := by
  refine en_i (cc := cX3_missedTargets) (maxL := 4) (own := RX3) (by decide) rfl rfl (Nat.le_of_ble_eq_true rfl) ?_
  intro p e s m args below meth c A Q H locs ls C0 hP hD hS hl HR
  obtain ⟨⟨hx, hb, hml, hown, hts⟩, hK, -⟩ := id C0
  have hl : lv_has ls 4 [(0, .ref (g_t 0)), (1, .ref (g_p1 0))] := hl
  unfold F_X3_missedTargets at hF
  refine lv_iconst (v := 0) hx hb dX3_missedTargets_0 (by decide) ?_
  refine lv_istore_n (lv' := [(2, .int (0 : Int32)), (0, .ref (g_t 0)), (1, .ref (g_p1 0))]) hx hb dX3_missedTargets_1 rfl hl (by decide) rfl (fun ls hl => ?_)
  refine lv_iconst (v := 0) hx hb dX3_missedTargets_2 (by decide) ?_
  refine lv_istore_n (lv' := [(3, .int (0 : Int32)), (2, .int (0 : Int32)), (0, .ref (g_t 0)), (1, .ref (g_p1 0))]) hx hb dX3_missedTargets_3 rfl hl (by decide) rfl (fun ls hl => ?_)
  exact w_X3_missedTargets_4 C0 HR fu_ (0 : Int32) (0 : Int32) H locs ls hP hD hS (lv_sub hl [2, 3, 1, 0] rfl) hF

/-! StaggerRadar.Echoes.isListed(LStaggerRadar$Radar;IZ)Z -/
abbrev rmX3_isListed : Room := { frames := 2, cells := 0, slots := 0, locals := 43 }
theorem fl_X3_isListed_18 : Cond.fieldLink RX3 18 "StaggerRadar$Echoes" "hitBits" "[I" ∈ wsX3_isListed := by decide +kernel
theorem fl_X3_isListed_66 : Cond.fieldLink RX3 66 "StaggerRadar$Radar" "settings" "[I" ∈ wsX3_isListed := by decide +kernel
theorem iw_X3_isListed_X3 : ∀ w ∈ u_ws RX3 TX3 6, w ∈ wsX3_isListed := by decide +kernel
theorem iw_X3_isListed_X5 : ∀ w ∈ u_ws RX5 TX5 13, w ∈ wsX3_isListed := by decide +kernel
abbrev w_X3_isListed (K : Nat → ClassId) (g_t : Nat → Nat) (g_p1 : Nat → Nat) (t_shownCount : Int32) (t_hitBits : Nat → Int32) (p1_gapCount : Int32) (p1_targetCount : Int32) (p1_lookCount : Int32) (p1_time : Int32) (p1_gone : Int32) (p1_settings : Nat → Int32) (p1_spots : Nat → Int32) : va_W := [((g_t 0), .inr (3, [.ref (g_t 1), .ref (g_t 2), .ref (g_t 3), .ref (g_t 4), .ref (g_t 5), .int t_shownCount])), ((g_t 3), .inl (K 0, 1000, .inl t_hitBits)), ((g_p1 0), .inr (5, [.ref (g_p1 1), .ref (g_p1 2), .ref (g_p1 3), .ref (g_p1 4), .ref (g_p1 5), .ref (g_p1 6), .ref (g_p1 7), .ref (g_p1 8), .int p1_gapCount, .int p1_targetCount, .int p1_lookCount, .int p1_time, .int p1_gone])), ((g_p1 2), .inl (K 0, 7, .inl p1_settings)), ((g_p1 3), .inl (K 0, 8, .inl p1_spots))]
def F_X3_isListed (t_hitBits : Nat → Int32) (p1_targetCount : Int32) (p1_settings : Nat → Int32) (p1_spots : Nat → Int32) (x2 : Int32) (x3 : Int32) : Option (Int32) :=
  gd_ (in_b x2 1000) ((F_J6_bitCount_0f7a4 (t_hitBits (x2).toNatClampNeg)).bind fun r_2 => (if r_2 < (p1_settings 4) then (some (0 : Int32)) else (if x3 = (0 : Int32) then (some (1 : Int32)) else ((F_X5_isRange p1_targetCount p1_spots x2).bind fun r_6 => (if r_6 = (0 : Int32) then (some (1 : Int32)) else (some (0 : Int32)))))))
set_option maxHeartbeats 4000000 in
set_option maxRecDepth 100000 in
theorem c_X3_isListed (l : Launch) (D : va_G) (K : Nat → ClassId) (g_t : Nat → Nat) (g_p1 : Nat → Nat) (t_shownCount : Int32) (t_hitBits : Nat → Int32) (p1_gapCount : Int32) (p1_targetCount : Int32) (p1_lookCount : Int32) (p1_time : Int32) (p1_gone : Int32) (p1_settings : Nat → Int32) (p1_spots : Nat → Int32) (x2 : Int32) (x3 : Int32) (res : Int32) (hF : F_X3_isListed t_hitBits p1_targetCount p1_settings p1_spots x2 x3 = some res) :
    Mi_ l yX3_isListed wsX3_isListed rmX3_isListed D K [.ref (g_t 0), .ref (g_p1 0), .int x2, .int x3] (w_X3_isListed K g_t g_p1 t_shownCount t_hitBits p1_gapCount p1_targetCount p1_lookCount p1_time p1_gone p1_settings p1_spots) (w_X3_isListed K g_t g_p1 t_shownCount t_hitBits p1_gapCount p1_targetCount p1_lookCount p1_time p1_gone p1_settings p1_spots) (res) := by
  refine en_z (cc := cX3_isListed) (maxL := 4) (own := RX3) (by decide) rfl rfl (Nat.le_of_ble_eq_true rfl) ?_
  intro p e s m args below meth c A Q H locs ls C0 hP hD hS hl HR
  obtain ⟨⟨hx, hb, hml, hown, hts⟩, hK, -⟩ := id C0
  have hl : lv_has ls 4 [(0, .ref (g_t 0)), (1, .ref (g_p1 0)), (2, .int x2), (3, .int x3)] := hl
  unfold F_X3_isListed at hF
  refine lv_aload_n hx hb dX3_isListed_0 rfl (lv_at hl 0 rfl) ?_
  refine va_get (D := D) (ci := 3) (v := .ref (g_t 3)) (C := RX3) (T := TX3) (N := 6) hx hb hts iw_X3_isListed_X3 hown hK hP 0 rfl rfl 2 (by decide) (hts _ fl_X3_isListed_18) (fun _ h9 => h9) rfl dX3_isListed_1 ?_
  refine lv_iload_n hx hb dX3_isListed_4 rfl (lv_at hl 2 rfl) ?_
  obtain ⟨hg_1, hF⟩ := gd_some hF
  refine xl_i (f := t_hitBits) hx hb hK hP 1 0 rfl rfl rfl (in_v hg_1) dX3_isListed_5 ?_
  obtain ⟨r_2, hc_3, hF⟩ := bn_some hF
  refine xc_i (wn := (w_X3_isListed K g_t g_p1 t_shownCount t_hitBits p1_gapCount p1_targetCount p1_lookCount p1_time p1_gone p1_settings p1_spots)) hP hD hS C0.2.2.1 [] [0, 1, 2, 3, 4] [0, 1, 2, 3, 4] rfl rfl (by decide) (by decide) rfl (by decide) (va_runS (As := [.int (t_hitBits (x2).toNatClampNeg)]) (rest := []) C0.1 (c_J6_bitCount_0f7a4 l D K (t_hitBits (x2).toNatClampNeg) r_2 hc_3 H.size) (va_cwS 1 hts gX3_isListed_J6_bitCount_0f7a4 rfl rfl rfl (by decide +kernel) ⟨Nat.le_of_ble_eq_true rfl, Nat.le_of_ble_eq_true rfl⟩) (xp_S C0.2 hP hD hS [] rfl (by decide)) rfl rfl hl.1 rfl (lv_room (Nat.le_of_ble_eq_true rfl)) dX3_isListed_6 ⟨Nat.le_of_ble_eq_true rfl, Nat.le_of_ble_eq_true rfl⟩) (fun H locs hP hD hS => ?_)
  refine lv_aload_n hx hb dX3_isListed_9 rfl (lv_at hl 1 rfl) ?_
  refine va_get (D := D) (ci := 5) (v := .ref (g_p1 2)) (C := RX5) (T := TX5) (N := 13) hx hb hts iw_X3_isListed_X5 hown hK hP 2 rfl rfl 1 (by decide) (hts _ fl_X3_isListed_66) (fun _ h9 => h9) rfl dX3_isListed_10 ?_
  refine lv_iconst (v := 4) hx hb dX3_isListed_13 (by decide) ?_
  refine xl_i (f := p1_settings) hx hb hK hP 3 0 rfl rfl (k := 4) (by decide) (in_v (by decide)) dX3_isListed_14 ?_
  refine lv_icmp_lt (tgt := 34) hx hb dX3_isListed_15 (by decide) (fun c_4 => ?_) (fun c_4 => ?_)
  · have hF := it_pos c_4 hF
    refine lv_iconst (v := 0) hx hb dX3_isListed_34 (by decide) ?_
    obtain rfl := Option.some.inj hF
    exact HR 35 H locs ls dX3_isListed_35 narrow_b0 hP hD hS
  · have hF := it_neg c_4 hF
    refine lv_iload_n hx hb dX3_isListed_18 rfl (lv_at hl 3 rfl) ?_
    refine lv_if_eq (tgt := 30) hx hb dX3_isListed_19 (by decide) (fun c_5 => ?_) (fun c_5 => ?_)
    · have hF := it_pos c_5 hF
      refine lv_iconst (v := 1) hx hb dX3_isListed_30 (by decide) ?_
      refine lv_goto (tgt := 35) hx hb dX3_isListed_31 (by decide) ?_
      obtain rfl := Option.some.inj hF
      exact HR 35 H locs ls dX3_isListed_35 narrow_b1 hP hD hS
    · have hF := it_neg c_5 hF
      refine lv_aload_n hx hb dX3_isListed_22 rfl (lv_at hl 1 rfl) ?_
      refine lv_iload_n hx hb dX3_isListed_23 rfl (lv_at hl 2 rfl) ?_
      obtain ⟨r_6, hc_7, hF⟩ := bn_some hF
      refine xc_i (wn := (w_X3_isListed K g_t g_p1 t_shownCount t_hitBits p1_gapCount p1_targetCount p1_lookCount p1_time p1_gone p1_settings p1_spots)) hP hD hS C0.2.2.1 [2, 4] [0, 1, 3] [0, 1, 3, 2, 4] rfl rfl (by decide) (by decide) rfl (by decide) (va_runV (As := [.int x2]) (rest := []) C0.1 (c_X5_isRange l D K g_p1 p1_gapCount p1_targetCount p1_lookCount p1_time p1_gone p1_spots x2 r_6 hc_7 H.size) (cwV 1 hts gX3_isListed_X5_isRange rfl rfl rfl (by decide +kernel) ⟨Nat.le_of_ble_eq_true rfl, Nat.le_of_ble_eq_true rfl⟩) (xp_V C0.2 hP hD hS [2, 4] rfl (by decide) 5 0 rfl rfl rfl) rfl rfl hl.1 rfl (lv_room (Nat.le_of_ble_eq_true rfl)) dX3_isListed_24 ⟨Nat.le_of_ble_eq_true rfl, Nat.le_of_ble_eq_true rfl⟩) (fun H locs hP hD hS => ?_)
      refine lv_if_ne (tgt := 34) hx hb dX3_isListed_27 (by decide) (fun c_8 => ?_) (fun c_8 => ?_)
      · have hF := it_neg c_8 hF
        refine lv_iconst (v := 0) hx hb dX3_isListed_34 (by decide) ?_
        obtain rfl := Option.some.inj hF
        exact HR 35 H locs ls dX3_isListed_35 narrow_b0 hP hD hS
      · have hF := it_pos c_8 hF
        refine lv_iconst (v := 1) hx hb dX3_isListed_30 (by decide) ?_
        refine lv_goto (tgt := 35) hx hb dX3_isListed_31 (by decide) ?_
        obtain rfl := Option.some.inj hF
        exact HR 35 H locs ls dX3_isListed_35 narrow_b1 hP hD hS

/-! StaggerRadar.Echoes.countFound(LStaggerRadar$Radar;Z)I -/
abbrev rmX3_countFound : Room := { frames := 3, cells := 0, slots := 0, locals := 69 }
theorem fl_X3_countFound_66 : Cond.fieldLink RX3 66 "StaggerRadar$Radar" "settings" "[I" ∈ wsX3_countFound := by decide +kernel
theorem iw_X3_countFound_X3 : ∀ w ∈ u_ws RX3 TX3 6, w ∈ wsX3_countFound := by decide +kernel
theorem iw_X3_countFound_X5 : ∀ w ∈ u_ws RX5 TX5 13, w ∈ wsX3_countFound := by decide +kernel
abbrev w_X3_countFound (K : Nat → ClassId) (g_t : Nat → Nat) (g_p1 : Nat → Nat) (t_shownCount : Int32) (t_loud : Nat → Int32) (t_hitBits : Nat → Int32) (p1_gapCount : Int32) (p1_targetCount : Int32) (p1_lookCount : Int32) (p1_time : Int32) (p1_gone : Int32) (p1_gaps : Nat → Int32) (p1_settings : Nat → Int32) (p1_spots : Nat → Int32) : va_W := [((g_t 0), .inr (3, [.ref (g_t 1), .ref (g_t 2), .ref (g_t 3), .ref (g_t 4), .ref (g_t 5), .int t_shownCount])), ((g_t 2), .inl (K 0, 300, .inl t_loud)), ((g_t 3), .inl (K 0, 1000, .inl t_hitBits)), ((g_p1 0), .inr (5, [.ref (g_p1 1), .ref (g_p1 2), .ref (g_p1 3), .ref (g_p1 4), .ref (g_p1 5), .ref (g_p1 6), .ref (g_p1 7), .ref (g_p1 8), .int p1_gapCount, .int p1_targetCount, .int p1_lookCount, .int p1_time, .int p1_gone])), ((g_p1 1), .inl (K 0, 5, .inl p1_gaps)), ((g_p1 2), .inl (K 0, 7, .inl p1_settings)), ((g_p1 3), .inl (K 0, 8, .inl p1_spots))]
def L_X3_countFound_10 (t_loud : Nat → Int32) (p1_gapCount : Int32) (p1_targetCount : Int32) (p1_gaps : Nat → Int32) (p1_settings : Nat → Int32) (p1_spots : Nat → Int32) : Nat → (Nat → Int32) → Int32 → Int32 → Int32 → Option (Int32 × (Nat → Int32))
  | 0, _, _, _, _ => none
  | n_ + 1, t_hitBits, x2, x3, x4 =>
    if (p1_settings 3) ≤ x4 then (some (x3, t_hitBits)) else ((F_X3_isListed t_hitBits p1_targetCount p1_settings p1_spots x4 x2).bind fun r_2 => (if r_2 = (0 : Int32) then (L_X3_countFound_10 t_loud p1_gapCount p1_targetCount p1_gaps p1_settings p1_spots n_ t_hitBits x2 x3 (x4 + (1 : Int32))) else (L_X3_countFound_10 t_loud p1_gapCount p1_targetCount p1_gaps p1_settings p1_spots n_ t_hitBits x2 (x3 + (1 : Int32)) (x4 + (1 : Int32)))))
set_option maxHeartbeats 4000000 in
set_option maxRecDepth 100000 in
theorem w_X3_countFound_10 {p : Program} {l : Launch} {e : Env} {s : State} {m : MethodId} {args : Array Value} {below : List Frame} {meth : Method} {c : Code} {D : va_G} {K : Nat → ClassId} {A : Nat → Prop} {Q : State → Prop} (C0 : cx_ p s m args c cX3_countFound 5 RX3 wsX3_countFound D K A) {g_t : Nat → Nat} {g_p1 : Nat → Nat} {t_shownCount : Int32} {t_loud : Nat → Int32} {p1_gapCount : Int32} {p1_targetCount : Int32} {p1_lookCount : Int32} {p1_time : Int32} {p1_gone : Int32} {p1_gaps : Nat → Int32} {p1_settings : Nat → Int32} {p1_spots : Nat → Int32} {res : Int32 × (Nat → Int32)} (HR : ∀ (pc : Nat) (H : Heap) (locs : List Loc) (ls : Array Slot), decode cX3_countFound pc = .ok (.ireturn, 1) → va_P D vwCl (w_X3_countFound K g_t g_p1 t_shownCount t_loud res.2 p1_gapCount p1_targetCount p1_lookCount p1_time p1_gone p1_gaps p1_settings p1_spots) H → va_D A (w_X3_countFound K g_t g_p1 t_shownCount t_loud res.2 p1_gapCount p1_targetCount p1_lookCount p1_time p1_gone p1_gaps p1_settings p1_spots) → va_S A s.heap H locs → W p l e rmX3_countFound s m args below meth c H locs 0 0 Q (F0 m pc ls [.int res.1]))  :
    ∀ (n_ : Nat) (t_hitBits : Nat → Int32) (x2 : Int32) (x3 : Int32) (x4 : Int32) (H : Heap) (locs : List Loc) (ls : Array Slot), va_P D vwCl (w_X3_countFound K g_t g_p1 t_shownCount t_loud t_hitBits p1_gapCount p1_targetCount p1_lookCount p1_time p1_gone p1_gaps p1_settings p1_spots) H → va_D A (w_X3_countFound K g_t g_p1 t_shownCount t_loud t_hitBits p1_gapCount p1_targetCount p1_lookCount p1_time p1_gone p1_gaps p1_settings p1_spots) → va_S A s.heap H locs → lv_has ls 5 [(0, .ref (g_t 0)), (1, .ref (g_p1 0)), (2, .int x2), (3, .int x3), (4, .int x4)] → L_X3_countFound_10 t_loud p1_gapCount p1_targetCount p1_gaps p1_settings p1_spots n_ t_hitBits x2 x3 x4 = some res → W p l e rmX3_countFound s m args below meth c H locs 0 0 Q (F0 m 10 ls []) := by
  obtain ⟨⟨hx, hb, hml, hown, hts⟩, hK, -⟩ := id C0
  intro n_
  induction n_ with
  | zero =>
    intro t_hitBits x2 x3 x4 H locs ls hP hD hS hl hF
    exact no_s (show (none : Option (Int32 × (Nat → Int32))) = some res from hF)
  | succ n_ ih =>
    intro t_hitBits x2 x3 x4 H locs ls hP hD hS hl hF
    rw [L_X3_countFound_10] at hF
    refine lv_iload hx hb dX3_countFound_10 (lv_at hl 4 rfl) ?_
    refine lv_aload_n hx hb dX3_countFound_12 rfl (lv_at hl 1 rfl) ?_
    refine va_get (D := D) (ci := 5) (v := .ref (g_p1 2)) (C := RX5) (T := TX5) (N := 13) hx hb hts iw_X3_countFound_X5 hown hK hP 3 rfl rfl 1 (by decide) (hts _ fl_X3_countFound_66) (fun _ h9 => h9) rfl dX3_countFound_13 ?_
    refine lv_iconst (v := 3) hx hb dX3_countFound_16 (by decide) ?_
    refine xl_i (f := p1_settings) hx hb hK hP 5 0 rfl rfl (k := 3) (by decide) (in_v (by decide)) dX3_countFound_17 ?_
    refine lv_icmp_ge (tgt := 41) hx hb dX3_countFound_18 (by decide) (fun c_1 => ?_) (fun c_1 => ?_)
    · have hF := it_pos c_1 hF
      refine lv_iload_n hx hb dX3_countFound_41 rfl (lv_at hl 3 rfl) ?_
      obtain rfl := Option.some.inj hF
      exact HR 42 H locs ls dX3_countFound_42 hP hD hS
    · have hF := it_neg c_1 hF
      refine lv_aload_n hx hb dX3_countFound_21 rfl (lv_at hl 0 rfl) ?_
      refine lv_aload_n hx hb dX3_countFound_22 rfl (lv_at hl 1 rfl) ?_
      refine lv_iload hx hb dX3_countFound_23 (lv_at hl 4 rfl) ?_
      refine lv_iload_n hx hb dX3_countFound_25 rfl (lv_at hl 2 rfl) ?_
      obtain ⟨r_2, hc_3, hF⟩ := bn_some hF
      refine xc_i (wn := (w_X3_countFound K g_t g_p1 t_shownCount t_loud t_hitBits p1_gapCount p1_targetCount p1_lookCount p1_time p1_gone p1_gaps p1_settings p1_spots)) hP hD hS C0.2.2.1 [0, 2, 3, 5, 6] [1, 4] [2, 0, 3, 4, 1, 5, 6] rfl rfl (by decide) (by decide) rfl (by decide) (va_runV (As := [.ref (g_p1 0), .int x4, .int x2]) (rest := []) C0.1 (c_X3_isListed l D K g_t g_p1 t_shownCount t_hitBits p1_gapCount p1_targetCount p1_lookCount p1_time p1_gone p1_settings p1_spots x4 x2 r_2 hc_3 H.size) (cwV 3 hts gX3_countFound_X3_isListed rfl rfl rfl (by decide +kernel) ⟨Nat.le_of_ble_eq_true rfl, Nat.le_of_ble_eq_true rfl⟩) (xp_V C0.2 hP hD hS [0, 2, 3, 5, 6] rfl (by decide) 3 0 rfl rfl rfl) rfl rfl hl.1 rfl (lv_room (Nat.le_of_ble_eq_true rfl)) dX3_countFound_26 ⟨Nat.le_of_ble_eq_true rfl, Nat.le_of_ble_eq_true rfl⟩) (fun H locs hP hD hS => ?_)
      refine lv_if_eq (tgt := 35) hx hb dX3_countFound_29 (by decide) (fun c_4 => ?_) (fun c_4 => ?_)
      · have hF := it_pos c_4 hF
        refine lv_iinc (v := (x4 + (1 : Int32))) (lv' := [(4, .int (x4 + (1 : Int32))), (0, .ref (g_t 0)), (1, .ref (g_p1 0)), (2, .int x2), (3, .int x3)]) hx hb dX3_countFound_35 hl (k := 4) rfl (congrArg (fun z => x4 + z) (by decide)) (by decide) rfl (fun ls hl => ?_)
        refine lv_goto (tgt := 10) hx hb dX3_countFound_38 (by decide) ?_
        exact ih t_hitBits x2 x3 (x4 + (1 : Int32)) H locs ls hP hD hS (lv_sub hl [1, 2, 3, 4, 0] rfl) hF
      · have hF := it_neg c_4 hF
        refine lv_iinc (v := (x3 + (1 : Int32))) (lv' := [(3, .int (x3 + (1 : Int32))), (0, .ref (g_t 0)), (1, .ref (g_p1 0)), (2, .int x2), (4, .int x4)]) hx hb dX3_countFound_32 hl (k := 3) rfl (congrArg (fun z => x3 + z) (by decide)) (by decide) rfl (fun ls hl => ?_)
        refine lv_iinc (v := (x4 + (1 : Int32))) (lv' := [(4, .int (x4 + (1 : Int32))), (3, .int (x3 + (1 : Int32))), (0, .ref (g_t 0)), (1, .ref (g_p1 0)), (2, .int x2)]) hx hb dX3_countFound_35 hl (k := 4) rfl (congrArg (fun z => x4 + z) (by decide)) (by decide) rfl (fun ls hl => ?_)
        refine lv_goto (tgt := 10) hx hb dX3_countFound_38 (by decide) ?_
        exact ih t_hitBits x2 (x3 + (1 : Int32)) (x4 + (1 : Int32)) H locs ls hP hD hS (lv_sub hl [2, 3, 4, 1, 0] rfl) hF
def F_X3_countFound (t_loud : Nat → Int32) (t_hitBits : Nat → Int32) (p1_gapCount : Int32) (p1_targetCount : Int32) (p1_gaps : Nat → Int32) (p1_settings : Nat → Int32) (p1_spots : Nat → Int32) (x2 : Int32) : Option (Int32 × (Nat → Int32)) :=
  (F_X3_markHits t_loud t_hitBits p1_gapCount p1_gaps p1_settings).bind fun r_1 => (L_X3_countFound_10 t_loud p1_gapCount p1_targetCount p1_gaps p1_settings p1_spots fu_ r_1 x2 (0 : Int32) (0 : Int32))
set_option maxHeartbeats 4000000 in
set_option maxRecDepth 100000 in
theorem c_X3_countFound (l : Launch) (D : va_G) (K : Nat → ClassId) (g_t : Nat → Nat) (g_p1 : Nat → Nat) (t_shownCount : Int32) (t_loud : Nat → Int32) (t_hitBits : Nat → Int32) (p1_gapCount : Int32) (p1_targetCount : Int32) (p1_lookCount : Int32) (p1_time : Int32) (p1_gone : Int32) (p1_gaps : Nat → Int32) (p1_settings : Nat → Int32) (p1_spots : Nat → Int32) (x2 : Int32) (res : Int32 × (Nat → Int32)) (hF : F_X3_countFound t_loud t_hitBits p1_gapCount p1_targetCount p1_gaps p1_settings p1_spots x2 = some res) :
    Mi_ l yX3_countFound wsX3_countFound rmX3_countFound D K [.ref (g_t 0), .ref (g_p1 0), .int x2] (w_X3_countFound K g_t g_p1 t_shownCount t_loud t_hitBits p1_gapCount p1_targetCount p1_lookCount p1_time p1_gone p1_gaps p1_settings p1_spots) (w_X3_countFound K g_t g_p1 t_shownCount t_loud res.2 p1_gapCount p1_targetCount p1_lookCount p1_time p1_gone p1_gaps p1_settings p1_spots) (res.1) := by
  refine en_i (cc := cX3_countFound) (maxL := 5) (own := RX3) (by decide) rfl rfl (Nat.le_of_ble_eq_true rfl) ?_
  intro p e s m args below meth c A Q H locs ls C0 hP hD hS hl HR
  obtain ⟨⟨hx, hb, hml, hown, hts⟩, hK, -⟩ := id C0
  have hl : lv_has ls 5 [(0, .ref (g_t 0)), (1, .ref (g_p1 0)), (2, .int x2)] := hl
  unfold F_X3_countFound at hF
  refine lv_aload_n hx hb dX3_countFound_0 rfl (lv_at hl 0 rfl) ?_
  refine lv_aload_n hx hb dX3_countFound_1 rfl (lv_at hl 1 rfl) ?_
  obtain ⟨r_1, hc_2, hF⟩ := bn_some hF
  refine xc_v (wn := (w_X3_countFound K g_t g_p1 t_shownCount t_loud r_1 p1_gapCount p1_targetCount p1_lookCount p1_time p1_gone p1_gaps p1_settings p1_spots)) hP hD hS C0.2.2.1 [0, 1, 2, 3, 4, 5] [6] [1, 2, 3, 4, 5, 6, 0] rfl rfl (by decide) (by decide) rfl (by decide) (va_runV (As := [.ref (g_p1 0)]) (rest := []) C0.1 (c_X3_markHits l D K g_t g_p1 t_shownCount t_loud t_hitBits p1_gapCount p1_targetCount p1_lookCount p1_time p1_gone p1_gaps p1_settings r_1 hc_2 H.size) (cwV 1 hts gX3_countFound_X3_markHits rfl rfl rfl (by decide +kernel) ⟨Nat.le_of_ble_eq_true rfl, Nat.le_of_ble_eq_true rfl⟩) (xp_V C0.2 hP hD hS [0, 1, 2, 3, 4, 5] rfl (by decide) 3 0 rfl rfl rfl) rfl rfl hl.1 rfl (lv_room (Nat.le_of_ble_eq_true rfl)) dX3_countFound_2 ⟨Nat.le_of_ble_eq_true rfl, Nat.le_of_ble_eq_true rfl⟩) (fun H locs hP hD hS => ?_)
  refine lv_iconst (v := 0) hx hb dX3_countFound_5 (by decide) ?_
  refine lv_istore_n (lv' := [(3, .int (0 : Int32)), (0, .ref (g_t 0)), (1, .ref (g_p1 0)), (2, .int x2)]) hx hb dX3_countFound_6 rfl hl (by decide) rfl (fun ls hl => ?_)
  refine lv_iconst (v := 0) hx hb dX3_countFound_7 (by decide) ?_
  refine lv_istore (lv' := [(4, .int (0 : Int32)), (3, .int (0 : Int32)), (0, .ref (g_t 0)), (1, .ref (g_p1 0)), (2, .int x2)]) hx hb dX3_countFound_8 hl (by decide) rfl (fun ls hl => ?_)
  exact w_X3_countFound_10 C0 HR fu_ r_1 x2 (0 : Int32) (0 : Int32) H locs ls hP hD hS (lv_sub hl [2, 3, 4, 1, 0] rfl) hF

/-! StaggerRadar.Echoes.countOfGap(LStaggerRadar$Radar;I)I -/
abbrev rmX3_countOfGap : Room := { frames := 1, cells := 0, slots := 0, locals := 23 }
theorem fl_X3_countOfGap_33 : Cond.fieldLink RX3 33 "StaggerRadar$Radar" "gaps" "[I" ∈ wsX3_countOfGap := by decide +kernel
theorem iw_X3_countOfGap_X3 : ∀ w ∈ u_ws RX3 TX3 6, w ∈ wsX3_countOfGap := by decide +kernel
theorem iw_X3_countOfGap_X5 : ∀ w ∈ u_ws RX5 TX5 13, w ∈ wsX3_countOfGap := by decide +kernel
abbrev w_X3_countOfGap (K : Nat → ClassId) (g_t : Nat → Nat) (g_p1 : Nat → Nat) (t_shownCount : Int32) (t_loud : Nat → Int32) (p1_gapCount : Int32) (p1_targetCount : Int32) (p1_lookCount : Int32) (p1_time : Int32) (p1_gone : Int32) (p1_gaps : Nat → Int32) (p1_settings : Nat → Int32) : va_W := [((g_t 0), .inr (3, [.ref (g_t 1), .ref (g_t 2), .ref (g_t 3), .ref (g_t 4), .ref (g_t 5), .int t_shownCount])), ((g_t 2), .inl (K 0, 300, .inl t_loud)), ((g_p1 0), .inr (5, [.ref (g_p1 1), .ref (g_p1 2), .ref (g_p1 3), .ref (g_p1 4), .ref (g_p1 5), .ref (g_p1 6), .ref (g_p1 7), .ref (g_p1 8), .int p1_gapCount, .int p1_targetCount, .int p1_lookCount, .int p1_time, .int p1_gone])), ((g_p1 1), .inl (K 0, 5, .inl p1_gaps)), ((g_p1 2), .inl (K 0, 7, .inl p1_settings))]
def L_X3_countOfGap_5 (t_loud : Nat → Int32) (p1_gaps : Nat → Int32) (p1_settings : Nat → Int32) : Nat → Int32 → Int32 → Int32 → Option (Int32)
  | 0, _, _, _ => none
  | n_ + 1, x2, x3, x4 =>
    gd_ (in_b x2 5) (if (p1_gaps (x2).toNatClampNeg) ≤ x4 then (some x3) else ((F_X3_isEcho t_loud p1_settings x2 x4).bind fun r_3 => (if r_3 = (0 : Int32) then (L_X3_countOfGap_5 t_loud p1_gaps p1_settings n_ x2 x3 (x4 + (1 : Int32))) else (L_X3_countOfGap_5 t_loud p1_gaps p1_settings n_ x2 (x3 + (1 : Int32)) (x4 + (1 : Int32))))))
set_option maxHeartbeats 4000000 in
set_option maxRecDepth 100000 in
theorem w_X3_countOfGap_5 {p : Program} {l : Launch} {e : Env} {s : State} {m : MethodId} {args : Array Value} {below : List Frame} {meth : Method} {c : Code} {D : va_G} {K : Nat → ClassId} {A : Nat → Prop} {Q : State → Prop} (C0 : cx_ p s m args c cX3_countOfGap 5 RX3 wsX3_countOfGap D K A) {g_t : Nat → Nat} {g_p1 : Nat → Nat} {t_shownCount : Int32} {t_loud : Nat → Int32} {p1_gapCount : Int32} {p1_targetCount : Int32} {p1_lookCount : Int32} {p1_time : Int32} {p1_gone : Int32} {p1_gaps : Nat → Int32} {p1_settings : Nat → Int32} {res : Int32} (HR : ∀ (pc : Nat) (H : Heap) (locs : List Loc) (ls : Array Slot), decode cX3_countOfGap pc = .ok (.ireturn, 1) → va_P D vwCl (w_X3_countOfGap K g_t g_p1 t_shownCount t_loud p1_gapCount p1_targetCount p1_lookCount p1_time p1_gone p1_gaps p1_settings) H → va_D A (w_X3_countOfGap K g_t g_p1 t_shownCount t_loud p1_gapCount p1_targetCount p1_lookCount p1_time p1_gone p1_gaps p1_settings) → va_S A s.heap H locs → W p l e rmX3_countOfGap s m args below meth c H locs 0 0 Q (F0 m pc ls [.int res]))  :
    ∀ (n_ : Nat) (x2 : Int32) (x3 : Int32) (x4 : Int32) (H : Heap) (locs : List Loc) (ls : Array Slot), va_P D vwCl (w_X3_countOfGap K g_t g_p1 t_shownCount t_loud p1_gapCount p1_targetCount p1_lookCount p1_time p1_gone p1_gaps p1_settings) H → va_D A (w_X3_countOfGap K g_t g_p1 t_shownCount t_loud p1_gapCount p1_targetCount p1_lookCount p1_time p1_gone p1_gaps p1_settings) → va_S A s.heap H locs → lv_has ls 5 [(0, .ref (g_t 0)), (1, .ref (g_p1 0)), (2, .int x2), (3, .int x3), (4, .int x4)] → L_X3_countOfGap_5 t_loud p1_gaps p1_settings n_ x2 x3 x4 = some res → W p l e rmX3_countOfGap s m args below meth c H locs 0 0 Q (F0 m 5 ls []) := by
  obtain ⟨⟨hx, hb, hml, hown, hts⟩, hK, -⟩ := id C0
  intro n_
  induction n_ with
  | zero =>
    intro x2 x3 x4 H locs ls hP hD hS hl hF
    exact no_s (show (none : Option (Int32)) = some res from hF)
  | succ n_ ih =>
    intro x2 x3 x4 H locs ls hP hD hS hl hF
    rw [L_X3_countOfGap_5] at hF
    refine lv_iload hx hb dX3_countOfGap_5 (lv_at hl 4 rfl) ?_
    refine lv_aload_n hx hb dX3_countOfGap_7 rfl (lv_at hl 1 rfl) ?_
    refine va_get (D := D) (ci := 5) (v := .ref (g_p1 1)) (C := RX5) (T := TX5) (N := 13) hx hb hts iw_X3_countOfGap_X5 hown hK hP 2 rfl rfl 0 (by decide) (hts _ fl_X3_countOfGap_33) (fun _ h9 => h9) rfl dX3_countOfGap_8 ?_
    refine lv_iload_n hx hb dX3_countOfGap_11 rfl (lv_at hl 2 rfl) ?_
    obtain ⟨hg_1, hF⟩ := gd_some hF
    refine xl_i (f := p1_gaps) hx hb hK hP 3 0 rfl rfl rfl (in_v hg_1) dX3_countOfGap_12 ?_
    refine lv_icmp_ge (tgt := 36) hx hb dX3_countOfGap_13 (by decide) (fun c_2 => ?_) (fun c_2 => ?_)
    · have hF := it_pos c_2 hF
      refine lv_iload_n hx hb dX3_countOfGap_36 rfl (lv_at hl 3 rfl) ?_
      obtain rfl := Option.some.inj hF
      exact HR 37 H locs ls dX3_countOfGap_37 hP hD hS
    · have hF := it_neg c_2 hF
      refine lv_aload_n hx hb dX3_countOfGap_16 rfl (lv_at hl 0 rfl) ?_
      refine lv_aload_n hx hb dX3_countOfGap_17 rfl (lv_at hl 1 rfl) ?_
      refine lv_iload_n hx hb dX3_countOfGap_18 rfl (lv_at hl 2 rfl) ?_
      refine lv_iload hx hb dX3_countOfGap_19 (lv_at hl 4 rfl) ?_
      obtain ⟨r_3, hc_4, hF⟩ := bn_some hF
      refine xc_i (wn := (w_X3_countOfGap K g_t g_p1 t_shownCount t_loud p1_gapCount p1_targetCount p1_lookCount p1_time p1_gone p1_gaps p1_settings)) hP hD hS C0.2.2.1 [0, 1, 2, 4] [3] [1, 2, 3, 0, 4] rfl rfl (by decide) (by decide) rfl (by decide) (va_runV (As := [.ref (g_p1 0), .int x2, .int x4]) (rest := []) C0.1 (c_X3_isEcho l D K g_t g_p1 t_shownCount t_loud p1_gapCount p1_targetCount p1_lookCount p1_time p1_gone p1_settings x2 x4 r_3 hc_4 H.size) (cwV 3 hts gX3_countOfGap_X3_isEcho rfl rfl rfl (by decide +kernel) ⟨Nat.le_of_ble_eq_true rfl, Nat.le_of_ble_eq_true rfl⟩) (xp_V C0.2 hP hD hS [0, 1, 2, 4] rfl (by decide) 3 0 rfl rfl rfl) rfl rfl hl.1 rfl (lv_room (Nat.le_of_ble_eq_true rfl)) dX3_countOfGap_21 ⟨Nat.le_of_ble_eq_true rfl, Nat.le_of_ble_eq_true rfl⟩) (fun H locs hP hD hS => ?_)
      refine lv_if_eq (tgt := 30) hx hb dX3_countOfGap_24 (by decide) (fun c_5 => ?_) (fun c_5 => ?_)
      · have hF := it_pos c_5 hF
        refine lv_iinc (v := (x4 + (1 : Int32))) (lv' := [(4, .int (x4 + (1 : Int32))), (0, .ref (g_t 0)), (1, .ref (g_p1 0)), (2, .int x2), (3, .int x3)]) hx hb dX3_countOfGap_30 hl (k := 4) rfl (congrArg (fun z => x4 + z) (by decide)) (by decide) rfl (fun ls hl => ?_)
        refine lv_goto (tgt := 5) hx hb dX3_countOfGap_33 (by decide) ?_
        exact ih x2 x3 (x4 + (1 : Int32)) H locs ls hP hD hS (lv_sub hl [1, 2, 3, 4, 0] rfl) hF
      · have hF := it_neg c_5 hF
        refine lv_iinc (v := (x3 + (1 : Int32))) (lv' := [(3, .int (x3 + (1 : Int32))), (0, .ref (g_t 0)), (1, .ref (g_p1 0)), (2, .int x2), (4, .int x4)]) hx hb dX3_countOfGap_27 hl (k := 3) rfl (congrArg (fun z => x3 + z) (by decide)) (by decide) rfl (fun ls hl => ?_)
        refine lv_iinc (v := (x4 + (1 : Int32))) (lv' := [(4, .int (x4 + (1 : Int32))), (3, .int (x3 + (1 : Int32))), (0, .ref (g_t 0)), (1, .ref (g_p1 0)), (2, .int x2)]) hx hb dX3_countOfGap_30 hl (k := 4) rfl (congrArg (fun z => x4 + z) (by decide)) (by decide) rfl (fun ls hl => ?_)
        refine lv_goto (tgt := 5) hx hb dX3_countOfGap_33 (by decide) ?_
        exact ih x2 (x3 + (1 : Int32)) (x4 + (1 : Int32)) H locs ls hP hD hS (lv_sub hl [2, 3, 4, 1, 0] rfl) hF
def F_X3_countOfGap (t_loud : Nat → Int32) (p1_gaps : Nat → Int32) (p1_settings : Nat → Int32) (x2 : Int32) : Option (Int32) :=
  L_X3_countOfGap_5 t_loud p1_gaps p1_settings fu_ x2 (0 : Int32) (0 : Int32)
set_option maxHeartbeats 4000000 in
set_option maxRecDepth 100000 in
theorem c_X3_countOfGap (l : Launch) (D : va_G) (K : Nat → ClassId) (g_t : Nat → Nat) (g_p1 : Nat → Nat) (t_shownCount : Int32) (t_loud : Nat → Int32) (p1_gapCount : Int32) (p1_targetCount : Int32) (p1_lookCount : Int32) (p1_time : Int32) (p1_gone : Int32) (p1_gaps : Nat → Int32) (p1_settings : Nat → Int32) (x2 : Int32) (res : Int32) (hF : F_X3_countOfGap t_loud p1_gaps p1_settings x2 = some res) :
    Mi_ l yX3_countOfGap wsX3_countOfGap rmX3_countOfGap D K [.ref (g_t 0), .ref (g_p1 0), .int x2] (w_X3_countOfGap K g_t g_p1 t_shownCount t_loud p1_gapCount p1_targetCount p1_lookCount p1_time p1_gone p1_gaps p1_settings) (w_X3_countOfGap K g_t g_p1 t_shownCount t_loud p1_gapCount p1_targetCount p1_lookCount p1_time p1_gone p1_gaps p1_settings) (res) := by
  refine en_i (cc := cX3_countOfGap) (maxL := 5) (own := RX3) (by decide) rfl rfl (Nat.le_of_ble_eq_true rfl) ?_
  intro p e s m args below meth c A Q H locs ls C0 hP hD hS hl HR
  obtain ⟨⟨hx, hb, hml, hown, hts⟩, hK, -⟩ := id C0
  have hl : lv_has ls 5 [(0, .ref (g_t 0)), (1, .ref (g_p1 0)), (2, .int x2)] := hl
  unfold F_X3_countOfGap at hF
  refine lv_iconst (v := 0) hx hb dX3_countOfGap_0 (by decide) ?_
  refine lv_istore_n (lv' := [(3, .int (0 : Int32)), (0, .ref (g_t 0)), (1, .ref (g_p1 0)), (2, .int x2)]) hx hb dX3_countOfGap_1 rfl hl (by decide) rfl (fun ls hl => ?_)
  refine lv_iconst (v := 0) hx hb dX3_countOfGap_2 (by decide) ?_
  refine lv_istore (lv' := [(4, .int (0 : Int32)), (3, .int (0 : Int32)), (0, .ref (g_t 0)), (1, .ref (g_p1 0)), (2, .int x2)]) hx hb dX3_countOfGap_3 hl (by decide) rfl (fun ls hl => ?_)
  exact w_X3_countOfGap_5 C0 HR fu_ x2 (0 : Int32) (0 : Int32) H locs ls hP hD hS (lv_sub hl [2, 3, 4, 1, 0] rfl) hF

/-! StaggerRadar.Echoes.countAll(LStaggerRadar$Radar;)I -/
abbrev rmX3_countAll : Room := { frames := 2, cells := 0, slots := 0, locals := 47 }
theorem fl_X3_countAll_27 : Cond.fieldLink RX3 27 "StaggerRadar$Radar" "gapCount" "I" ∈ wsX3_countAll := by decide +kernel
theorem iw_X3_countAll_X3 : ∀ w ∈ u_ws RX3 TX3 6, w ∈ wsX3_countAll := by decide +kernel
theorem iw_X3_countAll_X5 : ∀ w ∈ u_ws RX5 TX5 13, w ∈ wsX3_countAll := by decide +kernel
abbrev w_X3_countAll (K : Nat → ClassId) (g_t : Nat → Nat) (g_p1 : Nat → Nat) (t_shownCount : Int32) (t_loud : Nat → Int32) (p1_gapCount : Int32) (p1_targetCount : Int32) (p1_lookCount : Int32) (p1_time : Int32) (p1_gone : Int32) (p1_gaps : Nat → Int32) (p1_settings : Nat → Int32) : va_W := [((g_t 0), .inr (3, [.ref (g_t 1), .ref (g_t 2), .ref (g_t 3), .ref (g_t 4), .ref (g_t 5), .int t_shownCount])), ((g_t 2), .inl (K 0, 300, .inl t_loud)), ((g_p1 0), .inr (5, [.ref (g_p1 1), .ref (g_p1 2), .ref (g_p1 3), .ref (g_p1 4), .ref (g_p1 5), .ref (g_p1 6), .ref (g_p1 7), .ref (g_p1 8), .int p1_gapCount, .int p1_targetCount, .int p1_lookCount, .int p1_time, .int p1_gone])), ((g_p1 1), .inl (K 0, 5, .inl p1_gaps)), ((g_p1 2), .inl (K 0, 7, .inl p1_settings))]
def L_X3_countAll_4 (t_loud : Nat → Int32) (p1_gapCount : Int32) (p1_gaps : Nat → Int32) (p1_settings : Nat → Int32) : Nat → Int32 → Int32 → Option (Int32)
  | 0, _, _ => none
  | n_ + 1, x2, x3 =>
    if p1_gapCount ≤ x3 then (some x2) else ((F_X3_countOfGap t_loud p1_gaps p1_settings x3).bind fun r_2 => (L_X3_countAll_4 t_loud p1_gapCount p1_gaps p1_settings n_ (x2 + r_2) (x3 + (1 : Int32))))
set_option maxHeartbeats 4000000 in
set_option maxRecDepth 100000 in
theorem w_X3_countAll_4 {p : Program} {l : Launch} {e : Env} {s : State} {m : MethodId} {args : Array Value} {below : List Frame} {meth : Method} {c : Code} {D : va_G} {K : Nat → ClassId} {A : Nat → Prop} {Q : State → Prop} (C0 : cx_ p s m args c cX3_countAll 4 RX3 wsX3_countAll D K A) {g_t : Nat → Nat} {g_p1 : Nat → Nat} {t_shownCount : Int32} {t_loud : Nat → Int32} {p1_gapCount : Int32} {p1_targetCount : Int32} {p1_lookCount : Int32} {p1_time : Int32} {p1_gone : Int32} {p1_gaps : Nat → Int32} {p1_settings : Nat → Int32} {res : Int32} (HR : ∀ (pc : Nat) (H : Heap) (locs : List Loc) (ls : Array Slot), decode cX3_countAll pc = .ok (.ireturn, 1) → va_P D vwCl (w_X3_countAll K g_t g_p1 t_shownCount t_loud p1_gapCount p1_targetCount p1_lookCount p1_time p1_gone p1_gaps p1_settings) H → va_D A (w_X3_countAll K g_t g_p1 t_shownCount t_loud p1_gapCount p1_targetCount p1_lookCount p1_time p1_gone p1_gaps p1_settings) → va_S A s.heap H locs → W p l e rmX3_countAll s m args below meth c H locs 0 0 Q (F0 m pc ls [.int res]))  :
    ∀ (n_ : Nat) (x2 : Int32) (x3 : Int32) (H : Heap) (locs : List Loc) (ls : Array Slot), va_P D vwCl (w_X3_countAll K g_t g_p1 t_shownCount t_loud p1_gapCount p1_targetCount p1_lookCount p1_time p1_gone p1_gaps p1_settings) H → va_D A (w_X3_countAll K g_t g_p1 t_shownCount t_loud p1_gapCount p1_targetCount p1_lookCount p1_time p1_gone p1_gaps p1_settings) → va_S A s.heap H locs → lv_has ls 4 [(0, .ref (g_t 0)), (1, .ref (g_p1 0)), (2, .int x2), (3, .int x3)] → L_X3_countAll_4 t_loud p1_gapCount p1_gaps p1_settings n_ x2 x3 = some res → W p l e rmX3_countAll s m args below meth c H locs 0 0 Q (F0 m 4 ls []) := by
  obtain ⟨⟨hx, hb, hml, hown, hts⟩, hK, -⟩ := id C0
  intro n_
  induction n_ with
  | zero =>
    intro x2 x3 H locs ls hP hD hS hl hF
    exact no_s (show (none : Option (Int32)) = some res from hF)
  | succ n_ ih =>
    intro x2 x3 H locs ls hP hD hS hl hF
    rw [L_X3_countAll_4] at hF
    refine lv_iload_n hx hb dX3_countAll_4 rfl (lv_at hl 3 rfl) ?_
    refine lv_aload_n hx hb dX3_countAll_5 rfl (lv_at hl 1 rfl) ?_
    refine va_get (D := D) (ci := 5) (v := .int p1_gapCount) (C := RX5) (T := TX5) (N := 13) hx hb hts iw_X3_countAll_X5 hown hK hP 2 rfl rfl 8 (by decide) (hts _ fl_X3_countAll_27) (fun _ h9 => h9) rfl dX3_countAll_6 ?_
    refine lv_icmp_ge (tgt := 27) hx hb dX3_countAll_9 (by decide) (fun c_1 => ?_) (fun c_1 => ?_)
    · have hF := it_pos c_1 hF
      refine lv_iload_n hx hb dX3_countAll_27 rfl (lv_at hl 2 rfl) ?_
      obtain rfl := Option.some.inj hF
      exact HR 28 H locs ls dX3_countAll_28 hP hD hS
    · have hF := it_neg c_1 hF
      refine lv_iload_n hx hb dX3_countAll_12 rfl (lv_at hl 2 rfl) ?_
      refine lv_aload_n hx hb dX3_countAll_13 rfl (lv_at hl 0 rfl) ?_
      refine lv_aload_n hx hb dX3_countAll_14 rfl (lv_at hl 1 rfl) ?_
      refine lv_iload_n hx hb dX3_countAll_15 rfl (lv_at hl 3 rfl) ?_
      obtain ⟨r_2, hc_3, hF⟩ := bn_some hF
      refine xc_i (wn := (w_X3_countAll K g_t g_p1 t_shownCount t_loud p1_gapCount p1_targetCount p1_lookCount p1_time p1_gone p1_gaps p1_settings)) hP hD hS C0.2.2.1 [0, 1, 2, 3, 4] [] [0, 1, 2, 3, 4] rfl rfl (by decide) (by decide) rfl (by decide) (va_runV (As := [.ref (g_p1 0), .int x3]) (rest := [.int x2]) C0.1 (c_X3_countOfGap l D K g_t g_p1 t_shownCount t_loud p1_gapCount p1_targetCount p1_lookCount p1_time p1_gone p1_gaps p1_settings x3 r_2 hc_3 H.size) (cwV 2 hts gX3_countAll_X3_countOfGap rfl rfl rfl (by decide +kernel) ⟨Nat.le_of_ble_eq_true rfl, Nat.le_of_ble_eq_true rfl⟩) (xp_V C0.2 hP hD hS [0, 1, 2, 3, 4] rfl (by decide) 3 0 rfl rfl rfl) rfl rfl hl.1 rfl (lv_room (Nat.le_of_ble_eq_true rfl)) dX3_countAll_16 ⟨Nat.le_of_ble_eq_true rfl, Nat.le_of_ble_eq_true rfl⟩) (fun H locs hP hD hS => ?_)
      refine lv_iadd hx hb dX3_countAll_19 ?_
      refine lv_istore_n (lv' := [(2, .int (x2 + r_2)), (0, .ref (g_t 0)), (1, .ref (g_p1 0)), (3, .int x3)]) hx hb dX3_countAll_20 rfl hl (by decide) rfl (fun ls hl => ?_)
      refine lv_iinc (v := (x3 + (1 : Int32))) (lv' := [(3, .int (x3 + (1 : Int32))), (2, .int (x2 + r_2)), (0, .ref (g_t 0)), (1, .ref (g_p1 0))]) hx hb dX3_countAll_21 hl (k := 3) rfl (congrArg (fun z => x3 + z) (by decide)) (by decide) rfl (fun ls hl => ?_)
      refine lv_goto (tgt := 4) hx hb dX3_countAll_24 (by decide) ?_
      exact ih (x2 + r_2) (x3 + (1 : Int32)) H locs ls hP hD hS (lv_sub hl [2, 3, 1, 0] rfl) hF
def F_X3_countAll (t_loud : Nat → Int32) (p1_gapCount : Int32) (p1_gaps : Nat → Int32) (p1_settings : Nat → Int32) : Option (Int32) :=
  L_X3_countAll_4 t_loud p1_gapCount p1_gaps p1_settings fu_ (0 : Int32) (0 : Int32)
set_option maxHeartbeats 4000000 in
set_option maxRecDepth 100000 in
theorem c_X3_countAll (l : Launch) (D : va_G) (K : Nat → ClassId) (g_t : Nat → Nat) (g_p1 : Nat → Nat) (t_shownCount : Int32) (t_loud : Nat → Int32) (p1_gapCount : Int32) (p1_targetCount : Int32) (p1_lookCount : Int32) (p1_time : Int32) (p1_gone : Int32) (p1_gaps : Nat → Int32) (p1_settings : Nat → Int32) (res : Int32) (hF : F_X3_countAll t_loud p1_gapCount p1_gaps p1_settings = some res) :
    Mi_ l yX3_countAll wsX3_countAll rmX3_countAll D K [.ref (g_t 0), .ref (g_p1 0)] (w_X3_countAll K g_t g_p1 t_shownCount t_loud p1_gapCount p1_targetCount p1_lookCount p1_time p1_gone p1_gaps p1_settings) (w_X3_countAll K g_t g_p1 t_shownCount t_loud p1_gapCount p1_targetCount p1_lookCount p1_time p1_gone p1_gaps p1_settings) (res) := by
  refine en_i (cc := cX3_countAll) (maxL := 4) (own := RX3) (by decide) rfl rfl (Nat.le_of_ble_eq_true rfl) ?_
  intro p e s m args below meth c A Q H locs ls C0 hP hD hS hl HR
  obtain ⟨⟨hx, hb, hml, hown, hts⟩, hK, -⟩ := id C0
  have hl : lv_has ls 4 [(0, .ref (g_t 0)), (1, .ref (g_p1 0))] := hl
  unfold F_X3_countAll at hF
  refine lv_iconst (v := 0) hx hb dX3_countAll_0 (by decide) ?_
  refine lv_istore_n (lv' := [(2, .int (0 : Int32)), (0, .ref (g_t 0)), (1, .ref (g_p1 0))]) hx hb dX3_countAll_1 rfl hl (by decide) rfl (fun ls hl => ?_)
  refine lv_iconst (v := 0) hx hb dX3_countAll_2 (by decide) ?_
  refine lv_istore_n (lv' := [(3, .int (0 : Int32)), (2, .int (0 : Int32)), (0, .ref (g_t 0)), (1, .ref (g_p1 0))]) hx hb dX3_countAll_3 rfl hl (by decide) rfl (fun ls hl => ?_)
  exact w_X3_countAll_4 C0 HR fu_ (0 : Int32) (0 : Int32) H locs ls hP hD hS (lv_sub hl [2, 3, 1, 0] rfl) hF

/-! StaggerRadar.countHeard(I)I -/
abbrev rmX10_countHeard : Room := { frames := 5, cells := 0, slots := 0, locals := 115 }
theorem fl_X10_countHeard_10 : Cond.fieldLink RX10 10 "StaggerRadar" "radar" "LStaggerRadar$Radar;" ∈ wsX10_countHeard := by decide +kernel
theorem fl_X10_countHeard_55 : Cond.fieldLink RX10 55 "StaggerRadar" "echoes" "LStaggerRadar$Echoes;" ∈ wsX10_countHeard := by decide +kernel
theorem fl_X10_countHeard_190 : Cond.fieldLink RX10 190 "StaggerRadar$Echoes" "shownCount" "I" ∈ wsX10_countHeard := by decide +kernel
theorem iw_X10_countHeard_X10 : ∀ w ∈ u_ws RX10 TX10 14, w ∈ wsX10_countHeard := by decide +kernel
theorem iw_X10_countHeard_X3 : ∀ w ∈ u_ws RX3 TX3 6, w ∈ wsX10_countHeard := by decide +kernel
theorem iw_X10_countHeard_X5 : ∀ w ∈ u_ws RX5 TX5 13, w ∈ wsX10_countHeard := by decide +kernel
abbrev w_X10_countHeard (K : Nat → ClassId) (g_t : Nat → Nat) (g_t_radar : Nat → Nat) (g_t_draft : Nat → Nat) (g_t_text : Nat → Nat) (g_t_reader : Nat → Nat) (g_t_history : Nat → Nat) (g_t_echoes : Nat → Nat) (g_t_tracks : Nat → Nat) (g_t_dwelling : Nat → Nat) (g_t_chooser : Nat → Nat) (g_t_adviser : Nat → Nat) (t_radar_gapCount : Int32) (t_radar_targetCount : Int32) (t_radar_lookCount : Int32) (t_radar_time : Int32) (t_radar_gone : Int32) (t_radar_gaps : Nat → Int32) (t_radar_settings : Nat → Int32) (t_radar_spots : Nat → Int32) (t_radar_speeds : Nat → Int32) (t_radar_strengths : Nat → Int32) (t_echoes_shownCount : Int32) (t_echoes_targets : Nat → Int32) (t_echoes_loud : Nat → Int32) (t_echoes_hitBits : Nat → Int32) (t_echoes_shown : Nat → Int32) (t_echoes_took : Nat → Int32) : va_W := [((g_t 0), .inr (9, [.ref (g_t_radar 0), .ref (g_t_draft 0), .ref (g_t_text 0), .ref (g_t_reader 0), .ref (g_t_history 0), .ref (g_t 6), .ref (g_t 7), .ref (g_t 8), .ref (g_t_echoes 0), .ref (g_t_tracks 0), .ref (g_t_dwelling 0), .ref (g_t_chooser 0), .ref (g_t_adviser 0), .ref (g_t 14)])), ((g_t_radar 0), .inr (5, [.ref (g_t_radar 1), .ref (g_t_radar 2), .ref (g_t_radar 3), .ref (g_t_radar 4), .ref (g_t_radar 5), .ref (g_t_radar 6), .ref (g_t_radar 7), .ref (g_t_radar 8), .int t_radar_gapCount, .int t_radar_targetCount, .int t_radar_lookCount, .int t_radar_time, .int t_radar_gone])), ((g_t_radar 1), .inl (K 0, 5, .inl t_radar_gaps)), ((g_t_radar 2), .inl (K 0, 7, .inl t_radar_settings)), ((g_t_radar 3), .inl (K 0, 8, .inl t_radar_spots)), ((g_t_radar 4), .inl (K 0, 8, .inl t_radar_speeds)), ((g_t_radar 5), .inl (K 0, 8, .inl t_radar_strengths)), ((g_t_echoes 0), .inr (3, [.ref (g_t_echoes 1), .ref (g_t_echoes 2), .ref (g_t_echoes 3), .ref (g_t_echoes 4), .ref (g_t_echoes 5), .int t_echoes_shownCount])), ((g_t_echoes 1), .inl (K 0, 300, .inl t_echoes_targets)), ((g_t_echoes 2), .inl (K 0, 300, .inl t_echoes_loud)), ((g_t_echoes 3), .inl (K 0, 1000, .inl t_echoes_hitBits)), ((g_t_echoes 4), .inl (K 0, 40, .inl t_echoes_shown)), ((g_t_echoes 5), .inl (K 0, 40, .inl t_echoes_took))]
def F_X10_countHeard (t_radar_gapCount : Int32) (t_radar_targetCount : Int32) (t_radar_gaps : Nat → Int32) (t_radar_settings : Nat → Int32) (t_radar_spots : Nat → Int32) (t_radar_speeds : Nat → Int32) (t_radar_strengths : Nat → Int32) (t_echoes_shownCount : Int32) (t_echoes_targets : Nat → Int32) (t_echoes_loud : Nat → Int32) (t_echoes_hitBits : Nat → Int32) (t_echoes_shown : Nat → Int32) (t_echoes_took : Nat → Int32) (x1 : Int32) : Option (Int32 × Int32 × (Nat → Int32) × (Nat → Int32) × (Nat → Int32) × (Nat → Int32) × (Nat → Int32)) :=
  (F_X3_listen t_echoes_targets t_echoes_loud t_radar_gapCount t_radar_targetCount t_radar_gaps t_radar_settings t_radar_spots t_radar_speeds t_radar_strengths).bind fun r_1 => (if x1 = (12 : Int32) then ((F_X3_countAll r_1.2 t_radar_gapCount t_radar_gaps t_radar_settings).bind fun r_4 => (some (r_4, t_echoes_shownCount, r_1.1, r_1.2, t_echoes_hitBits, t_echoes_shown, t_echoes_took))) else (if x1 = (13 : Int32) then ((F_X3_countFound r_1.2 t_echoes_hitBits t_radar_gapCount t_radar_targetCount t_radar_gaps t_radar_settings t_radar_spots (0 : Int32)).bind fun r_7 => (some (r_7.1, t_echoes_shownCount, r_1.1, r_1.2, r_7.2, t_echoes_shown, t_echoes_took))) else (if x1 = (14 : Int32) then ((F_X3_countFound r_1.2 t_echoes_hitBits t_radar_gapCount t_radar_targetCount t_radar_gaps t_radar_settings t_radar_spots (1 : Int32)).bind fun r_10 => (some (r_10.1, t_echoes_shownCount, r_1.1, r_1.2, r_10.2, t_echoes_shown, t_echoes_took))) else (if x1 = (15 : Int32) then ((F_X3_missedTargets r_1.2 t_radar_gapCount t_radar_targetCount t_radar_gaps t_radar_settings t_radar_spots).bind fun r_13 => (some (r_13, t_echoes_shownCount, r_1.1, r_1.2, t_echoes_hitBits, t_echoes_shown, t_echoes_took))) else (if x1 = (16 : Int32) then ((F_X3_paint t_echoes_shownCount r_1.2 t_echoes_hitBits t_echoes_shown t_echoes_took t_radar_gapCount t_radar_gaps t_radar_settings).bind fun r_16 => (some (r_16.1, r_16.1, r_1.1, r_1.2, r_16.2.1, r_16.2.2.1, r_16.2.2.2))) else (some ((-1 : Int32), t_echoes_shownCount, r_1.1, r_1.2, t_echoes_hitBits, t_echoes_shown, t_echoes_took)))))))
set_option maxHeartbeats 4000000 in
set_option maxRecDepth 100000 in
theorem c_X10_countHeard (l : Launch) (D : va_G) (K : Nat → ClassId) (g_t : Nat → Nat) (g_t_radar : Nat → Nat) (g_t_draft : Nat → Nat) (g_t_text : Nat → Nat) (g_t_reader : Nat → Nat) (g_t_history : Nat → Nat) (g_t_echoes : Nat → Nat) (g_t_tracks : Nat → Nat) (g_t_dwelling : Nat → Nat) (g_t_chooser : Nat → Nat) (g_t_adviser : Nat → Nat) (t_radar_gapCount : Int32) (t_radar_targetCount : Int32) (t_radar_lookCount : Int32) (t_radar_time : Int32) (t_radar_gone : Int32) (t_radar_gaps : Nat → Int32) (t_radar_settings : Nat → Int32) (t_radar_spots : Nat → Int32) (t_radar_speeds : Nat → Int32) (t_radar_strengths : Nat → Int32) (t_echoes_shownCount : Int32) (t_echoes_targets : Nat → Int32) (t_echoes_loud : Nat → Int32) (t_echoes_hitBits : Nat → Int32) (t_echoes_shown : Nat → Int32) (t_echoes_took : Nat → Int32) (x1 : Int32) (res : Int32 × Int32 × (Nat → Int32) × (Nat → Int32) × (Nat → Int32) × (Nat → Int32) × (Nat → Int32)) (hF : F_X10_countHeard t_radar_gapCount t_radar_targetCount t_radar_gaps t_radar_settings t_radar_spots t_radar_speeds t_radar_strengths t_echoes_shownCount t_echoes_targets t_echoes_loud t_echoes_hitBits t_echoes_shown t_echoes_took x1 = some res) :
    Mi_ l yX10_countHeard wsX10_countHeard rmX10_countHeard D K [.ref (g_t 0), .int x1] (w_X10_countHeard K g_t g_t_radar g_t_draft g_t_text g_t_reader g_t_history g_t_echoes g_t_tracks g_t_dwelling g_t_chooser g_t_adviser t_radar_gapCount t_radar_targetCount t_radar_lookCount t_radar_time t_radar_gone t_radar_gaps t_radar_settings t_radar_spots t_radar_speeds t_radar_strengths t_echoes_shownCount t_echoes_targets t_echoes_loud t_echoes_hitBits t_echoes_shown t_echoes_took) (w_X10_countHeard K g_t g_t_radar g_t_draft g_t_text g_t_reader g_t_history g_t_echoes g_t_tracks g_t_dwelling g_t_chooser g_t_adviser t_radar_gapCount t_radar_targetCount t_radar_lookCount t_radar_time t_radar_gone t_radar_gaps t_radar_settings t_radar_spots t_radar_speeds t_radar_strengths res.2.1 res.2.2.1 res.2.2.2.1 res.2.2.2.2.1 res.2.2.2.2.2.1 res.2.2.2.2.2.2) (res.1) := by
  refine en_i (cc := cX10_countHeard) (maxL := 2) (own := RX10) (by decide) rfl rfl (Nat.le_of_ble_eq_true rfl) ?_
  intro p e s m args below meth c A Q H locs ls C0 hP hD hS hl HR
  obtain ⟨⟨hx, hb, hml, hown, hts⟩, hK, -⟩ := id C0
  have hl : lv_has ls 2 [(0, .ref (g_t 0)), (1, .int x1)] := hl
  unfold F_X10_countHeard at hF
  refine lv_aload_n hx hb dX10_countHeard_0 rfl (lv_at hl 0 rfl) ?_
  refine va_get (D := D) (ci := 9) (v := .ref (g_t_echoes 0)) (C := RX10) (T := TX10) (N := 14) hx hb hts iw_X10_countHeard_X10 hown hK hP 0 rfl rfl 8 (by decide) (hts _ fl_X10_countHeard_55) (fun _ h9 => h9) rfl dX10_countHeard_1 ?_
  refine lv_aload_n hx hb dX10_countHeard_4 rfl (lv_at hl 0 rfl) ?_
  refine va_get (D := D) (ci := 9) (v := .ref (g_t_radar 0)) (C := RX10) (T := TX10) (N := 14) hx hb hts iw_X10_countHeard_X10 hown hK hP 0 rfl rfl 0 (by decide) (hts _ fl_X10_countHeard_10) (fun _ h9 => h9) rfl dX10_countHeard_5 ?_
  obtain ⟨r_1, hc_2, hF⟩ := bn_some hF
  refine xc_v (wn := (w_X10_countHeard K g_t g_t_radar g_t_draft g_t_text g_t_reader g_t_history g_t_echoes g_t_tracks g_t_dwelling g_t_chooser g_t_adviser t_radar_gapCount t_radar_targetCount t_radar_lookCount t_radar_time t_radar_gone t_radar_gaps t_radar_settings t_radar_spots t_radar_speeds t_radar_strengths t_echoes_shownCount r_1.1 r_1.2 t_echoes_hitBits t_echoes_shown t_echoes_took)) hP hD hS C0.2.2.1 [7, 8, 9, 1, 2, 3, 4, 5, 6] [0, 10, 11, 12] [0, 7, 8, 9, 10, 11, 12, 4, 5, 6, 1, 2, 3] rfl rfl (by decide) (by decide) rfl (by decide) (va_runV (As := [.ref (g_t_radar 0)]) (rest := []) C0.1 (c_X3_listen l D K g_t_echoes g_t_radar t_echoes_shownCount t_echoes_targets t_echoes_loud t_radar_gapCount t_radar_targetCount t_radar_lookCount t_radar_time t_radar_gone t_radar_gaps t_radar_settings t_radar_spots t_radar_speeds t_radar_strengths r_1 hc_2 H.size) (cwV 1 hts gX10_countHeard_X3_listen rfl rfl rfl (by decide +kernel) ⟨Nat.le_of_ble_eq_true rfl, Nat.le_of_ble_eq_true rfl⟩) (xp_V C0.2 hP hD hS [7, 8, 9, 1, 2, 3, 4, 5, 6] rfl (by decide) 3 0 rfl rfl rfl) rfl rfl hl.1 rfl (lv_room (Nat.le_of_ble_eq_true rfl)) dX10_countHeard_8 ⟨Nat.le_of_ble_eq_true rfl, Nat.le_of_ble_eq_true rfl⟩) (fun H locs hP hD hS => ?_)
  refine lv_iload_n hx hb dX10_countHeard_11 rfl (lv_at hl 1 rfl) ?_
  by_cases c_3 : x1 = (12 : Int32)
  · have hF := it_pos c_3 hF
    refine lv_tableIn (off := 36) (tgt := 48) hx hb dX10_countHeard_12 (by rw [c_3]; decide) (by rw [c_3]; decide) (by rw [c_3]; rfl) (by decide) ?_
    refine lv_aload_n hx hb dX10_countHeard_48 rfl (lv_at hl 0 rfl) ?_
    refine va_get (D := D) (ci := 9) (v := .ref (g_t_echoes 0)) (C := RX10) (T := TX10) (N := 14) hx hb hts iw_X10_countHeard_X10 hown hK hP 0 rfl rfl 8 (by decide) (hts _ fl_X10_countHeard_55) (fun _ h9 => h9) rfl dX10_countHeard_49 ?_
    refine lv_aload_n hx hb dX10_countHeard_52 rfl (lv_at hl 0 rfl) ?_
    refine va_get (D := D) (ci := 9) (v := .ref (g_t_radar 0)) (C := RX10) (T := TX10) (N := 14) hx hb hts iw_X10_countHeard_X10 hown hK hP 0 rfl rfl 0 (by decide) (hts _ fl_X10_countHeard_10) (fun _ h9 => h9) rfl dX10_countHeard_53 ?_
    obtain ⟨r_4, hc_5, hF⟩ := bn_some hF
    refine xc_i (wn := (w_X10_countHeard K g_t g_t_radar g_t_draft g_t_text g_t_reader g_t_history g_t_echoes g_t_tracks g_t_dwelling g_t_chooser g_t_adviser t_radar_gapCount t_radar_targetCount t_radar_lookCount t_radar_time t_radar_gone t_radar_gaps t_radar_settings t_radar_spots t_radar_speeds t_radar_strengths t_echoes_shownCount r_1.1 r_1.2 t_echoes_hitBits t_echoes_shown t_echoes_took)) hP hD hS C0.2.2.1 [7, 9, 1, 2, 3] [0, 4, 5, 6, 8, 10, 11, 12] [0, 10, 11, 12, 1, 2, 3, 8, 4, 9, 5, 6, 7] rfl rfl (by decide) (by decide) rfl (by decide) (va_runV (As := [.ref (g_t_radar 0)]) (rest := []) C0.1 (c_X3_countAll l D K g_t_echoes g_t_radar t_echoes_shownCount r_1.2 t_radar_gapCount t_radar_targetCount t_radar_lookCount t_radar_time t_radar_gone t_radar_gaps t_radar_settings r_4 hc_5 H.size) (cwV 1 hts gX10_countHeard_X3_countAll rfl rfl rfl (by decide +kernel) ⟨Nat.le_of_ble_eq_true rfl, Nat.le_of_ble_eq_true rfl⟩) (xp_V C0.2 hP hD hS [7, 9, 1, 2, 3] rfl (by decide) 3 0 rfl rfl rfl) rfl rfl hl.1 rfl (lv_room (Nat.le_of_ble_eq_true rfl)) dX10_countHeard_56 ⟨Nat.le_of_ble_eq_true rfl, Nat.le_of_ble_eq_true rfl⟩) (fun H locs hP hD hS => ?_)
    obtain rfl := Option.some.inj hF
    exact HR 59 H locs ls dX10_countHeard_59 hP hD hS
  have hF := it_neg c_3 hF
  by_cases c_6 : x1 = (13 : Int32)
  · have hF := it_pos c_6 hF
    refine lv_tableIn (off := 48) (tgt := 60) hx hb dX10_countHeard_12 (by rw [c_6]; decide) (by rw [c_6]; decide) (by rw [c_6]; rfl) (by decide) ?_
    refine lv_aload_n hx hb dX10_countHeard_60 rfl (lv_at hl 0 rfl) ?_
    refine va_get (D := D) (ci := 9) (v := .ref (g_t_echoes 0)) (C := RX10) (T := TX10) (N := 14) hx hb hts iw_X10_countHeard_X10 hown hK hP 0 rfl rfl 8 (by decide) (hts _ fl_X10_countHeard_55) (fun _ h9 => h9) rfl dX10_countHeard_61 ?_
    refine lv_aload_n hx hb dX10_countHeard_64 rfl (lv_at hl 0 rfl) ?_
    refine va_get (D := D) (ci := 9) (v := .ref (g_t_radar 0)) (C := RX10) (T := TX10) (N := 14) hx hb hts iw_X10_countHeard_X10 hown hK hP 0 rfl rfl 0 (by decide) (hts _ fl_X10_countHeard_10) (fun _ h9 => h9) rfl dX10_countHeard_65 ?_
    refine lv_iconst (v := 0) hx hb dX10_countHeard_68 (by decide) ?_
    obtain ⟨r_7, hc_8, hF⟩ := bn_some hF
    refine xc_i (wn := (w_X10_countHeard K g_t g_t_radar g_t_draft g_t_text g_t_reader g_t_history g_t_echoes g_t_tracks g_t_dwelling g_t_chooser g_t_adviser t_radar_gapCount t_radar_targetCount t_radar_lookCount t_radar_time t_radar_gone t_radar_gaps t_radar_settings t_radar_spots t_radar_speeds t_radar_strengths t_echoes_shownCount r_1.1 r_1.2 r_7.2 t_echoes_shown t_echoes_took)) hP hD hS C0.2.2.1 [7, 9, 10, 1, 2, 3, 4] [0, 5, 6, 8, 11, 12] [0, 9, 10, 11, 12, 1, 2, 6, 3, 7, 8, 4, 5] rfl rfl (by decide) (by decide) rfl (by decide) (va_runV (As := [.ref (g_t_radar 0), .int (0 : Int32)]) (rest := []) C0.1 (c_X3_countFound l D K g_t_echoes g_t_radar t_echoes_shownCount r_1.2 t_echoes_hitBits t_radar_gapCount t_radar_targetCount t_radar_lookCount t_radar_time t_radar_gone t_radar_gaps t_radar_settings t_radar_spots (0 : Int32) r_7 hc_8 H.size) (cwV 2 hts gX10_countHeard_X3_countFound rfl rfl rfl (by decide +kernel) ⟨Nat.le_of_ble_eq_true rfl, Nat.le_of_ble_eq_true rfl⟩) (xp_V C0.2 hP hD hS [7, 9, 10, 1, 2, 3, 4] rfl (by decide) 3 0 rfl rfl rfl) rfl rfl hl.1 rfl (lv_room (Nat.le_of_ble_eq_true rfl)) dX10_countHeard_69 ⟨Nat.le_of_ble_eq_true rfl, Nat.le_of_ble_eq_true rfl⟩) (fun H locs hP hD hS => ?_)
    obtain rfl := Option.some.inj hF
    exact HR 72 H locs ls dX10_countHeard_72 hP hD hS
  have hF := it_neg c_6 hF
  by_cases c_9 : x1 = (14 : Int32)
  · have hF := it_pos c_9 hF
    refine lv_tableIn (off := 61) (tgt := 73) hx hb dX10_countHeard_12 (by rw [c_9]; decide) (by rw [c_9]; decide) (by rw [c_9]; rfl) (by decide) ?_
    refine lv_aload_n hx hb dX10_countHeard_73 rfl (lv_at hl 0 rfl) ?_
    refine va_get (D := D) (ci := 9) (v := .ref (g_t_echoes 0)) (C := RX10) (T := TX10) (N := 14) hx hb hts iw_X10_countHeard_X10 hown hK hP 0 rfl rfl 8 (by decide) (hts _ fl_X10_countHeard_55) (fun _ h9 => h9) rfl dX10_countHeard_74 ?_
    refine lv_aload_n hx hb dX10_countHeard_77 rfl (lv_at hl 0 rfl) ?_
    refine va_get (D := D) (ci := 9) (v := .ref (g_t_radar 0)) (C := RX10) (T := TX10) (N := 14) hx hb hts iw_X10_countHeard_X10 hown hK hP 0 rfl rfl 0 (by decide) (hts _ fl_X10_countHeard_10) (fun _ h9 => h9) rfl dX10_countHeard_78 ?_
    refine lv_iconst (v := 1) hx hb dX10_countHeard_81 (by decide) ?_
    obtain ⟨r_10, hc_11, hF⟩ := bn_some hF
    refine xc_i (wn := (w_X10_countHeard K g_t g_t_radar g_t_draft g_t_text g_t_reader g_t_history g_t_echoes g_t_tracks g_t_dwelling g_t_chooser g_t_adviser t_radar_gapCount t_radar_targetCount t_radar_lookCount t_radar_time t_radar_gone t_radar_gaps t_radar_settings t_radar_spots t_radar_speeds t_radar_strengths t_echoes_shownCount r_1.1 r_1.2 r_10.2 t_echoes_shown t_echoes_took)) hP hD hS C0.2.2.1 [7, 9, 10, 1, 2, 3, 4] [0, 5, 6, 8, 11, 12] [0, 9, 10, 11, 12, 1, 2, 6, 3, 7, 8, 4, 5] rfl rfl (by decide) (by decide) rfl (by decide) (va_runV (As := [.ref (g_t_radar 0), .int (1 : Int32)]) (rest := []) C0.1 (c_X3_countFound l D K g_t_echoes g_t_radar t_echoes_shownCount r_1.2 t_echoes_hitBits t_radar_gapCount t_radar_targetCount t_radar_lookCount t_radar_time t_radar_gone t_radar_gaps t_radar_settings t_radar_spots (1 : Int32) r_10 hc_11 H.size) (cwV 2 hts gX10_countHeard_X3_countFound rfl rfl rfl (by decide +kernel) ⟨Nat.le_of_ble_eq_true rfl, Nat.le_of_ble_eq_true rfl⟩) (xp_V C0.2 hP hD hS [7, 9, 10, 1, 2, 3, 4] rfl (by decide) 3 0 rfl rfl rfl) rfl rfl hl.1 rfl (lv_room (Nat.le_of_ble_eq_true rfl)) dX10_countHeard_82 ⟨Nat.le_of_ble_eq_true rfl, Nat.le_of_ble_eq_true rfl⟩) (fun H locs hP hD hS => ?_)
    obtain rfl := Option.some.inj hF
    exact HR 85 H locs ls dX10_countHeard_85 hP hD hS
  have hF := it_neg c_9 hF
  by_cases c_12 : x1 = (15 : Int32)
  · have hF := it_pos c_12 hF
    refine lv_tableIn (off := 74) (tgt := 86) hx hb dX10_countHeard_12 (by rw [c_12]; decide) (by rw [c_12]; decide) (by rw [c_12]; rfl) (by decide) ?_
    refine lv_aload_n hx hb dX10_countHeard_86 rfl (lv_at hl 0 rfl) ?_
    refine va_get (D := D) (ci := 9) (v := .ref (g_t_echoes 0)) (C := RX10) (T := TX10) (N := 14) hx hb hts iw_X10_countHeard_X10 hown hK hP 0 rfl rfl 8 (by decide) (hts _ fl_X10_countHeard_55) (fun _ h9 => h9) rfl dX10_countHeard_87 ?_
    refine lv_aload_n hx hb dX10_countHeard_90 rfl (lv_at hl 0 rfl) ?_
    refine va_get (D := D) (ci := 9) (v := .ref (g_t_radar 0)) (C := RX10) (T := TX10) (N := 14) hx hb hts iw_X10_countHeard_X10 hown hK hP 0 rfl rfl 0 (by decide) (hts _ fl_X10_countHeard_10) (fun _ h9 => h9) rfl dX10_countHeard_91 ?_
    obtain ⟨r_13, hc_14, hF⟩ := bn_some hF
    refine xc_i (wn := (w_X10_countHeard K g_t g_t_radar g_t_draft g_t_text g_t_reader g_t_history g_t_echoes g_t_tracks g_t_dwelling g_t_chooser g_t_adviser t_radar_gapCount t_radar_targetCount t_radar_lookCount t_radar_time t_radar_gone t_radar_gaps t_radar_settings t_radar_spots t_radar_speeds t_radar_strengths t_echoes_shownCount r_1.1 r_1.2 t_echoes_hitBits t_echoes_shown t_echoes_took)) hP hD hS C0.2.2.1 [7, 9, 1, 2, 3, 4] [0, 5, 6, 8, 10, 11, 12] [0, 9, 10, 11, 12, 1, 2, 7, 3, 8, 4, 5, 6] rfl rfl (by decide) (by decide) rfl (by decide) (va_runV (As := [.ref (g_t_radar 0)]) (rest := []) C0.1 (c_X3_missedTargets l D K g_t_echoes g_t_radar t_echoes_shownCount r_1.2 t_radar_gapCount t_radar_targetCount t_radar_lookCount t_radar_time t_radar_gone t_radar_gaps t_radar_settings t_radar_spots r_13 hc_14 H.size) (cwV 1 hts gX10_countHeard_X3_missedTargets rfl rfl rfl (by decide +kernel) ⟨Nat.le_of_ble_eq_true rfl, Nat.le_of_ble_eq_true rfl⟩) (xp_V C0.2 hP hD hS [7, 9, 1, 2, 3, 4] rfl (by decide) 3 0 rfl rfl rfl) rfl rfl hl.1 rfl (lv_room (Nat.le_of_ble_eq_true rfl)) dX10_countHeard_94 ⟨Nat.le_of_ble_eq_true rfl, Nat.le_of_ble_eq_true rfl⟩) (fun H locs hP hD hS => ?_)
    obtain rfl := Option.some.inj hF
    exact HR 97 H locs ls dX10_countHeard_97 hP hD hS
  have hF := it_neg c_12 hF
  by_cases c_15 : x1 = (16 : Int32)
  · have hF := it_pos c_15 hF
    refine lv_tableIn (off := 86) (tgt := 98) hx hb dX10_countHeard_12 (by rw [c_15]; decide) (by rw [c_15]; decide) (by rw [c_15]; rfl) (by decide) ?_
    refine lv_aload_n hx hb dX10_countHeard_98 rfl (lv_at hl 0 rfl) ?_
    refine va_get (D := D) (ci := 9) (v := .ref (g_t_echoes 0)) (C := RX10) (T := TX10) (N := 14) hx hb hts iw_X10_countHeard_X10 hown hK hP 0 rfl rfl 8 (by decide) (hts _ fl_X10_countHeard_55) (fun _ h9 => h9) rfl dX10_countHeard_99 ?_
    refine lv_aload_n hx hb dX10_countHeard_102 rfl (lv_at hl 0 rfl) ?_
    refine va_get (D := D) (ci := 9) (v := .ref (g_t_radar 0)) (C := RX10) (T := TX10) (N := 14) hx hb hts iw_X10_countHeard_X10 hown hK hP 0 rfl rfl 0 (by decide) (hts _ fl_X10_countHeard_10) (fun _ h9 => h9) rfl dX10_countHeard_103 ?_
    obtain ⟨r_16, hc_17, hF⟩ := bn_some hF
    refine xc_v (wn := (w_X10_countHeard K g_t g_t_radar g_t_draft g_t_text g_t_reader g_t_history g_t_echoes g_t_tracks g_t_dwelling g_t_chooser g_t_adviser t_radar_gapCount t_radar_targetCount t_radar_lookCount t_radar_time t_radar_gone t_radar_gaps t_radar_settings t_radar_spots t_radar_speeds t_radar_strengths r_16.1 r_1.1 r_1.2 r_16.2.1 r_16.2.2.1 r_16.2.2.2)) hP hD hS C0.2.2.1 [7, 9, 10, 11, 12, 1, 2, 3] [0, 4, 5, 6, 8] [0, 10, 11, 12, 1, 2, 3, 5, 4, 6, 7, 8, 9] rfl rfl (by decide) (by decide) rfl (by decide) (va_runV (As := [.ref (g_t_radar 0)]) (rest := []) C0.1 (c_X3_paint l D K g_t_echoes g_t_radar t_echoes_shownCount r_1.2 t_echoes_hitBits t_echoes_shown t_echoes_took t_radar_gapCount t_radar_targetCount t_radar_lookCount t_radar_time t_radar_gone t_radar_gaps t_radar_settings r_16 hc_17 H.size) (cwV 1 hts gX10_countHeard_X3_paint rfl rfl rfl (by decide +kernel) ⟨Nat.le_of_ble_eq_true rfl, Nat.le_of_ble_eq_true rfl⟩) (xp_V C0.2 hP hD hS [7, 9, 10, 11, 12, 1, 2, 3] rfl (by decide) 3 0 rfl rfl rfl) rfl rfl hl.1 rfl (lv_room (Nat.le_of_ble_eq_true rfl)) dX10_countHeard_106 ⟨Nat.le_of_ble_eq_true rfl, Nat.le_of_ble_eq_true rfl⟩) (fun H locs hP hD hS => ?_)
    refine lv_aload_n hx hb dX10_countHeard_109 rfl (lv_at hl 0 rfl) ?_
    refine va_get (D := D) (ci := 9) (v := .ref (g_t_echoes 0)) (C := RX10) (T := TX10) (N := 14) hx hb hts iw_X10_countHeard_X10 hown hK hP 0 rfl rfl 8 (by decide) (hts _ fl_X10_countHeard_55) (fun _ h9 => h9) rfl dX10_countHeard_110 ?_
    refine va_get (D := D) (ci := 3) (v := .int r_16.1) (C := RX3) (T := TX3) (N := 6) hx hb hts iw_X10_countHeard_X3 hown hK hP 7 rfl rfl 5 (by decide) (hts _ fl_X10_countHeard_190) (fun _ h9 => h9) rfl dX10_countHeard_113 ?_
    obtain rfl := Option.some.inj hF
    exact HR 116 H locs ls dX10_countHeard_116 hP hD hS
  have hF := it_neg c_15 hF
  have qc_3 := lv_neT (a := 12) c_3 (by decide)
  have qc_6 := lv_neT (a := 13) c_6 (by decide)
  have qc_9 := lv_neT (a := 14) c_9 (by decide)
  have qc_12 := lv_neT (a := 15) c_12 (by decide)
  have qc_15 := lv_neT (a := 16) c_15 (by decide)
  refine lv_tableOut (tgt := 117) hx hb dX10_countHeard_12 (by omega) (by decide) ?_
  refine lv_iconst (v := (-1)) hx hb dX10_countHeard_117 (by decide) ?_
  obtain rfl := Option.some.inj hF
  exact HR 118 H locs ls dX10_countHeard_118 hP hD hS

/-! StaggerRadar.count(I)I -/
abbrev rmX10_count : Room := { frames := 6, cells := 0, slots := 0, locals := 136 }
theorem fl_X10_count_10 : Cond.fieldLink RX10 10 "StaggerRadar" "radar" "LStaggerRadar$Radar;" ∈ wsX10_count := by decide +kernel
theorem fl_X10_count_22 : Cond.fieldLink RX10 22 "StaggerRadar" "text" "LStaggerRadar$Text;" ∈ wsX10_count := by decide +kernel
theorem fl_X10_count_36 : Cond.fieldLink RX10 36 "StaggerRadar" "history" "LStaggerRadar$History;" ∈ wsX10_count := by decide +kernel
theorem fl_X10_count_95 : Cond.fieldLink RX10 95 "StaggerRadar$Text" "size" "I" ∈ wsX10_count := by decide +kernel
theorem fl_X10_count_122 : Cond.fieldLink RX10 122 "StaggerRadar$Radar" "gapCount" "I" ∈ wsX10_count := by decide +kernel
theorem fl_X10_count_152 : Cond.fieldLink RX10 152 "StaggerRadar$Radar" "settings" "[I" ∈ wsX10_count := by decide +kernel
theorem fl_X10_count_158 : Cond.fieldLink RX10 158 "StaggerRadar$Radar" "targetCount" "I" ∈ wsX10_count := by decide +kernel
theorem fl_X10_count_171 : Cond.fieldLink RX10 171 "StaggerRadar$Radar" "time" "I" ∈ wsX10_count := by decide +kernel
theorem fl_X10_count_178 : Cond.fieldLink RX10 178 "StaggerRadar$Radar" "lookCount" "I" ∈ wsX10_count := by decide +kernel
theorem fl_X10_count_206 : Cond.fieldLink RX10 206 "StaggerRadar$History" "size" "I" ∈ wsX10_count := by decide +kernel
theorem fl_X10_count_210 : Cond.fieldLink RX10 210 "StaggerRadar$Radar" "gone" "I" ∈ wsX10_count := by decide +kernel
theorem iw_X10_count_X10 : ∀ w ∈ u_ws RX10 TX10 14, w ∈ wsX10_count := by decide +kernel
theorem iw_X10_count_X3 : ∀ w ∈ u_ws RX3 TX3 6, w ∈ wsX10_count := by decide +kernel
theorem iw_X10_count_X4 : ∀ w ∈ u_ws RX4 TX4 3, w ∈ wsX10_count := by decide +kernel
theorem iw_X10_count_X5 : ∀ w ∈ u_ws RX5 TX5 13, w ∈ wsX10_count := by decide +kernel
theorem iw_X10_count_X8 : ∀ w ∈ u_ws RX8 TX8 4, w ∈ wsX10_count := by decide +kernel
abbrev w_X10_count (K : Nat → ClassId) (g_t : Nat → Nat) (g_t_radar : Nat → Nat) (g_t_draft : Nat → Nat) (g_t_text : Nat → Nat) (g_t_reader : Nat → Nat) (g_t_history : Nat → Nat) (g_t_echoes : Nat → Nat) (g_t_tracks : Nat → Nat) (g_t_dwelling : Nat → Nat) (g_t_chooser : Nat → Nat) (g_t_adviser : Nat → Nat) (t_radar_gapCount : Int32) (t_radar_targetCount : Int32) (t_radar_lookCount : Int32) (t_radar_time : Int32) (t_radar_gone : Int32) (t_radar_gaps : Nat → Int32) (t_radar_settings : Nat → Int32) (t_radar_spots : Nat → Int32) (t_radar_speeds : Nat → Int32) (t_radar_strengths : Nat → Int32) (t_text_size : Int32) (t_text_faultKind : Int32) (t_text_faultPlace : Int32) (t_history_oldest : Int32) (t_history_size : Int32) (t_echoes_shownCount : Int32) (t_echoes_targets : Nat → Int32) (t_echoes_loud : Nat → Int32) (t_echoes_hitBits : Nat → Int32) (t_echoes_shown : Nat → Int32) (t_echoes_took : Nat → Int32) : va_W := [((g_t 0), .inr (9, [.ref (g_t_radar 0), .ref (g_t_draft 0), .ref (g_t_text 0), .ref (g_t_reader 0), .ref (g_t_history 0), .ref (g_t 6), .ref (g_t 7), .ref (g_t 8), .ref (g_t_echoes 0), .ref (g_t_tracks 0), .ref (g_t_dwelling 0), .ref (g_t_chooser 0), .ref (g_t_adviser 0), .ref (g_t 14)])), ((g_t_radar 0), .inr (5, [.ref (g_t_radar 1), .ref (g_t_radar 2), .ref (g_t_radar 3), .ref (g_t_radar 4), .ref (g_t_radar 5), .ref (g_t_radar 6), .ref (g_t_radar 7), .ref (g_t_radar 8), .int t_radar_gapCount, .int t_radar_targetCount, .int t_radar_lookCount, .int t_radar_time, .int t_radar_gone])), ((g_t_radar 1), .inl (K 0, 5, .inl t_radar_gaps)), ((g_t_radar 2), .inl (K 0, 7, .inl t_radar_settings)), ((g_t_radar 3), .inl (K 0, 8, .inl t_radar_spots)), ((g_t_radar 4), .inl (K 0, 8, .inl t_radar_speeds)), ((g_t_radar 5), .inl (K 0, 8, .inl t_radar_strengths)), ((g_t_text 0), .inr (7, [.ref (g_t_text 1), .int t_text_size, .int t_text_faultKind, .int t_text_faultPlace])), ((g_t_history 0), .inr (4, [.ref (g_t_history 1), .int t_history_oldest, .int t_history_size])), ((g_t_echoes 0), .inr (3, [.ref (g_t_echoes 1), .ref (g_t_echoes 2), .ref (g_t_echoes 3), .ref (g_t_echoes 4), .ref (g_t_echoes 5), .int t_echoes_shownCount])), ((g_t_echoes 1), .inl (K 0, 300, .inl t_echoes_targets)), ((g_t_echoes 2), .inl (K 0, 300, .inl t_echoes_loud)), ((g_t_echoes 3), .inl (K 0, 1000, .inl t_echoes_hitBits)), ((g_t_echoes 4), .inl (K 0, 40, .inl t_echoes_shown)), ((g_t_echoes 5), .inl (K 0, 40, .inl t_echoes_took))]
def F_X10_count (t_radar_gapCount : Int32) (t_radar_targetCount : Int32) (t_radar_lookCount : Int32) (t_radar_time : Int32) (t_radar_gone : Int32) (t_radar_gaps : Nat → Int32) (t_radar_settings : Nat → Int32) (t_radar_spots : Nat → Int32) (t_radar_speeds : Nat → Int32) (t_radar_strengths : Nat → Int32) (t_text_size : Int32) (t_history_size : Int32) (t_echoes_shownCount : Int32) (t_echoes_targets : Nat → Int32) (t_echoes_loud : Nat → Int32) (t_echoes_hitBits : Nat → Int32) (t_echoes_shown : Nat → Int32) (t_echoes_took : Nat → Int32) (x1 : Int32) : Option (Int32 × Int32 × (Nat → Int32) × (Nat → Int32) × (Nat → Int32) × (Nat → Int32) × (Nat → Int32)) :=
  (F_X10_isWithin x1 (1 : Int32) (7 : Int32)).bind fun r_1 => (if r_1 = (0 : Int32) then (if x1 = (0 : Int32) then (some (t_radar_gapCount, t_echoes_shownCount, t_echoes_targets, t_echoes_loud, t_echoes_hitBits, t_echoes_shown, t_echoes_took)) else (if x1 = (1 : Int32) then ((F_X10_countHeard t_radar_gapCount t_radar_targetCount t_radar_gaps t_radar_settings t_radar_spots t_radar_speeds t_radar_strengths t_echoes_shownCount t_echoes_targets t_echoes_loud t_echoes_hitBits t_echoes_shown t_echoes_took x1).bind fun r_6 => (some (r_6.1, r_6.2.1, r_6.2.2.1, r_6.2.2.2.1, r_6.2.2.2.2.1, r_6.2.2.2.2.2.1, r_6.2.2.2.2.2.2))) else (if x1 = (2 : Int32) then ((F_X10_countHeard t_radar_gapCount t_radar_targetCount t_radar_gaps t_radar_settings t_radar_spots t_radar_speeds t_radar_strengths t_echoes_shownCount t_echoes_targets t_echoes_loud t_echoes_hitBits t_echoes_shown t_echoes_took x1).bind fun r_9 => (some (r_9.1, r_9.2.1, r_9.2.2.1, r_9.2.2.2.1, r_9.2.2.2.2.1, r_9.2.2.2.2.2.1, r_9.2.2.2.2.2.2))) else (if x1 = (3 : Int32) then ((F_X10_countHeard t_radar_gapCount t_radar_targetCount t_radar_gaps t_radar_settings t_radar_spots t_radar_speeds t_radar_strengths t_echoes_shownCount t_echoes_targets t_echoes_loud t_echoes_hitBits t_echoes_shown t_echoes_took x1).bind fun r_12 => (some (r_12.1, r_12.2.1, r_12.2.2.1, r_12.2.2.2.1, r_12.2.2.2.2.1, r_12.2.2.2.2.2.1, r_12.2.2.2.2.2.2))) else (if x1 = (4 : Int32) then ((F_X10_countHeard t_radar_gapCount t_radar_targetCount t_radar_gaps t_radar_settings t_radar_spots t_radar_speeds t_radar_strengths t_echoes_shownCount t_echoes_targets t_echoes_loud t_echoes_hitBits t_echoes_shown t_echoes_took x1).bind fun r_15 => (some (r_15.1, r_15.2.1, r_15.2.2.1, r_15.2.2.2.1, r_15.2.2.2.2.1, r_15.2.2.2.2.2.1, r_15.2.2.2.2.2.2))) else (if x1 = (5 : Int32) then ((F_X10_countHeard t_radar_gapCount t_radar_targetCount t_radar_gaps t_radar_settings t_radar_spots t_radar_speeds t_radar_strengths t_echoes_shownCount t_echoes_targets t_echoes_loud t_echoes_hitBits t_echoes_shown t_echoes_took x1).bind fun r_18 => (some (r_18.1, r_18.2.1, r_18.2.2.1, r_18.2.2.2.1, r_18.2.2.2.2.1, r_18.2.2.2.2.2.1, r_18.2.2.2.2.2.2))) else (if x1 = (6 : Int32) then ((F_X10_countHeard t_radar_gapCount t_radar_targetCount t_radar_gaps t_radar_settings t_radar_spots t_radar_speeds t_radar_strengths t_echoes_shownCount t_echoes_targets t_echoes_loud t_echoes_hitBits t_echoes_shown t_echoes_took x1).bind fun r_21 => (some (r_21.1, r_21.2.1, r_21.2.2.1, r_21.2.2.2.1, r_21.2.2.2.2.1, r_21.2.2.2.2.2.1, r_21.2.2.2.2.2.2))) else (if x1 = (7 : Int32) then ((F_X10_countHeard t_radar_gapCount t_radar_targetCount t_radar_gaps t_radar_settings t_radar_spots t_radar_speeds t_radar_strengths t_echoes_shownCount t_echoes_targets t_echoes_loud t_echoes_hitBits t_echoes_shown t_echoes_took x1).bind fun r_24 => (some (r_24.1, r_24.2.1, r_24.2.2.1, r_24.2.2.2.1, r_24.2.2.2.2.1, r_24.2.2.2.2.2.1, r_24.2.2.2.2.2.2))) else (if x1 = (8 : Int32) then (some (t_radar_targetCount, t_echoes_shownCount, t_echoes_targets, t_echoes_loud, t_echoes_hitBits, t_echoes_shown, t_echoes_took)) else (if x1 = (9 : Int32) then (some (t_radar_time, t_echoes_shownCount, t_echoes_targets, t_echoes_loud, t_echoes_hitBits, t_echoes_shown, t_echoes_took)) else (if x1 = (10 : Int32) then (some (t_radar_gone, t_echoes_shownCount, t_echoes_targets, t_echoes_loud, t_echoes_hitBits, t_echoes_shown, t_echoes_took)) else (if x1 = (11 : Int32) then ((F_X7_countDark t_radar_gapCount t_radar_gaps t_radar_settings).bind fun r_30 => (some (r_30, t_echoes_shownCount, t_echoes_targets, t_echoes_loud, t_echoes_hitBits, t_echoes_shown, t_echoes_took))) else (if x1 = (12 : Int32) then ((F_X10_countHeard t_radar_gapCount t_radar_targetCount t_radar_gaps t_radar_settings t_radar_spots t_radar_speeds t_radar_strengths t_echoes_shownCount t_echoes_targets t_echoes_loud t_echoes_hitBits t_echoes_shown t_echoes_took x1).bind fun r_33 => (some (r_33.1, r_33.2.1, r_33.2.2.1, r_33.2.2.2.1, r_33.2.2.2.2.1, r_33.2.2.2.2.2.1, r_33.2.2.2.2.2.2))) else (if x1 = (13 : Int32) then ((F_X10_countHeard t_radar_gapCount t_radar_targetCount t_radar_gaps t_radar_settings t_radar_spots t_radar_speeds t_radar_strengths t_echoes_shownCount t_echoes_targets t_echoes_loud t_echoes_hitBits t_echoes_shown t_echoes_took x1).bind fun r_36 => (some (r_36.1, r_36.2.1, r_36.2.2.1, r_36.2.2.2.1, r_36.2.2.2.2.1, r_36.2.2.2.2.2.1, r_36.2.2.2.2.2.2))) else (if x1 = (14 : Int32) then ((F_X10_countHeard t_radar_gapCount t_radar_targetCount t_radar_gaps t_radar_settings t_radar_spots t_radar_speeds t_radar_strengths t_echoes_shownCount t_echoes_targets t_echoes_loud t_echoes_hitBits t_echoes_shown t_echoes_took x1).bind fun r_39 => (some (r_39.1, r_39.2.1, r_39.2.2.1, r_39.2.2.2.1, r_39.2.2.2.2.1, r_39.2.2.2.2.2.1, r_39.2.2.2.2.2.2))) else (if x1 = (15 : Int32) then ((F_X10_countHeard t_radar_gapCount t_radar_targetCount t_radar_gaps t_radar_settings t_radar_spots t_radar_speeds t_radar_strengths t_echoes_shownCount t_echoes_targets t_echoes_loud t_echoes_hitBits t_echoes_shown t_echoes_took x1).bind fun r_42 => (some (r_42.1, r_42.2.1, r_42.2.2.1, r_42.2.2.2.1, r_42.2.2.2.2.1, r_42.2.2.2.2.2.1, r_42.2.2.2.2.2.2))) else (if x1 = (16 : Int32) then ((F_X10_countHeard t_radar_gapCount t_radar_targetCount t_radar_gaps t_radar_settings t_radar_spots t_radar_speeds t_radar_strengths t_echoes_shownCount t_echoes_targets t_echoes_loud t_echoes_hitBits t_echoes_shown t_echoes_took x1).bind fun r_45 => (some (r_45.1, r_45.2.1, r_45.2.2.1, r_45.2.2.2.1, r_45.2.2.2.2.1, r_45.2.2.2.2.2.1, r_45.2.2.2.2.2.2))) else (if x1 = (17 : Int32) then (some (t_history_size, t_echoes_shownCount, t_echoes_targets, t_echoes_loud, t_echoes_hitBits, t_echoes_shown, t_echoes_took)) else (if x1 = (18 : Int32) then (some (t_text_size, t_echoes_shownCount, t_echoes_targets, t_echoes_loud, t_echoes_hitBits, t_echoes_shown, t_echoes_took)) else (if x1 = (19 : Int32) then (some (t_radar_lookCount, t_echoes_shownCount, t_echoes_targets, t_echoes_loud, t_echoes_hitBits, t_echoes_shown, t_echoes_took)) else ((F_X10_countHeard t_radar_gapCount t_radar_targetCount t_radar_gaps t_radar_settings t_radar_spots t_radar_speeds t_radar_strengths t_echoes_shownCount t_echoes_targets t_echoes_loud t_echoes_hitBits t_echoes_shown t_echoes_took x1).bind fun r_51 => (some (r_51.1, r_51.2.1, r_51.2.2.1, r_51.2.2.2.1, r_51.2.2.2.2.1, r_51.2.2.2.2.2.1, r_51.2.2.2.2.2.2))))))))))))))))))))))) else (gd_ (in_b (x1 - (1 : Int32)) 7) (some ((t_radar_settings (x1 - (1 : Int32)).toNatClampNeg), t_echoes_shownCount, t_echoes_targets, t_echoes_loud, t_echoes_hitBits, t_echoes_shown, t_echoes_took))))
set_option maxHeartbeats 4000000 in
set_option maxRecDepth 100000 in
theorem c_X10_count (l : Launch) (D : va_G) (K : Nat → ClassId) (g_t : Nat → Nat) (g_t_radar : Nat → Nat) (g_t_draft : Nat → Nat) (g_t_text : Nat → Nat) (g_t_reader : Nat → Nat) (g_t_history : Nat → Nat) (g_t_echoes : Nat → Nat) (g_t_tracks : Nat → Nat) (g_t_dwelling : Nat → Nat) (g_t_chooser : Nat → Nat) (g_t_adviser : Nat → Nat) (t_radar_gapCount : Int32) (t_radar_targetCount : Int32) (t_radar_lookCount : Int32) (t_radar_time : Int32) (t_radar_gone : Int32) (t_radar_gaps : Nat → Int32) (t_radar_settings : Nat → Int32) (t_radar_spots : Nat → Int32) (t_radar_speeds : Nat → Int32) (t_radar_strengths : Nat → Int32) (t_text_size : Int32) (t_text_faultKind : Int32) (t_text_faultPlace : Int32) (t_history_oldest : Int32) (t_history_size : Int32) (t_echoes_shownCount : Int32) (t_echoes_targets : Nat → Int32) (t_echoes_loud : Nat → Int32) (t_echoes_hitBits : Nat → Int32) (t_echoes_shown : Nat → Int32) (t_echoes_took : Nat → Int32) (x1 : Int32) (res : Int32 × Int32 × (Nat → Int32) × (Nat → Int32) × (Nat → Int32) × (Nat → Int32) × (Nat → Int32)) (hF : F_X10_count t_radar_gapCount t_radar_targetCount t_radar_lookCount t_radar_time t_radar_gone t_radar_gaps t_radar_settings t_radar_spots t_radar_speeds t_radar_strengths t_text_size t_history_size t_echoes_shownCount t_echoes_targets t_echoes_loud t_echoes_hitBits t_echoes_shown t_echoes_took x1 = some res) :
    Mi_ l yX10_count wsX10_count rmX10_count D K [.ref (g_t 0), .int x1] (w_X10_count K g_t g_t_radar g_t_draft g_t_text g_t_reader g_t_history g_t_echoes g_t_tracks g_t_dwelling g_t_chooser g_t_adviser t_radar_gapCount t_radar_targetCount t_radar_lookCount t_radar_time t_radar_gone t_radar_gaps t_radar_settings t_radar_spots t_radar_speeds t_radar_strengths t_text_size t_text_faultKind t_text_faultPlace t_history_oldest t_history_size t_echoes_shownCount t_echoes_targets t_echoes_loud t_echoes_hitBits t_echoes_shown t_echoes_took) (w_X10_count K g_t g_t_radar g_t_draft g_t_text g_t_reader g_t_history g_t_echoes g_t_tracks g_t_dwelling g_t_chooser g_t_adviser t_radar_gapCount t_radar_targetCount t_radar_lookCount t_radar_time t_radar_gone t_radar_gaps t_radar_settings t_radar_spots t_radar_speeds t_radar_strengths t_text_size t_text_faultKind t_text_faultPlace t_history_oldest t_history_size res.2.1 res.2.2.1 res.2.2.2.1 res.2.2.2.2.1 res.2.2.2.2.2.1 res.2.2.2.2.2.2) (res.1) := by
  refine en_i (cc := cX10_count) (maxL := 2) (own := RX10) (by decide) rfl rfl (Nat.le_of_ble_eq_true rfl) ?_
  intro p e s m args below meth c A Q H locs ls C0 hP hD hS hl HR
  obtain ⟨⟨hx, hb, hml, hown, hts⟩, hK, -⟩ := id C0
  have hl : lv_has ls 2 [(0, .ref (g_t 0)), (1, .int x1)] := hl
  unfold F_X10_count at hF
  refine lv_iload_n hx hb dX10_count_0 rfl (lv_at hl 1 rfl) ?_
  refine lv_iconst (v := 1) hx hb dX10_count_1 (by decide) ?_
  refine lv_bipush (v := 7) hx hb dX10_count_2 (by decide) ?_
  obtain ⟨r_1, hc_2, hF⟩ := bn_some hF
  refine xc_i (wn := (w_X10_count K g_t g_t_radar g_t_draft g_t_text g_t_reader g_t_history g_t_echoes g_t_tracks g_t_dwelling g_t_chooser g_t_adviser t_radar_gapCount t_radar_targetCount t_radar_lookCount t_radar_time t_radar_gone t_radar_gaps t_radar_settings t_radar_spots t_radar_speeds t_radar_strengths t_text_size t_text_faultKind t_text_faultPlace t_history_oldest t_history_size t_echoes_shownCount t_echoes_targets t_echoes_loud t_echoes_hitBits t_echoes_shown t_echoes_took)) hP hD hS C0.2.2.1 [] [0, 1, 2, 3, 4, 5, 6, 7, 8, 9, 10, 11, 12, 13, 14] [0, 1, 2, 3, 4, 5, 6, 7, 8, 9, 10, 11, 12, 13, 14] rfl rfl (by decide) (by decide) rfl (by decide) (va_runS (As := [.int x1, .int (1 : Int32), .int (7 : Int32)]) (rest := []) C0.1 (c_X10_isWithin l D K x1 (1 : Int32) (7 : Int32) r_1 hc_2 H.size) (va_cwS 3 hts gX10_count_X10_isWithin rfl rfl rfl (by decide +kernel) ⟨Nat.le_of_ble_eq_true rfl, Nat.le_of_ble_eq_true rfl⟩) (xp_S C0.2 hP hD hS [] rfl (by decide)) rfl rfl hl.1 rfl (lv_room (Nat.le_of_ble_eq_true rfl)) dX10_count_4 ⟨Nat.le_of_ble_eq_true rfl, Nat.le_of_ble_eq_true rfl⟩) (fun H locs hP hD hS => ?_)
  refine lv_if_eq (tgt := 22) hx hb dX10_count_7 (by decide) (fun c_3 => ?_) (fun c_3 => ?_)
  · have hF := it_pos c_3 hF
    refine lv_iload_n hx hb dX10_count_22 rfl (lv_at hl 1 rfl) ?_
    by_cases c_4 : x1 = (0 : Int32)
    · have hF := it_pos c_4 hF
      refine lv_tableIn (off := 93) (tgt := 116) hx hb dX10_count_23 (by rw [c_4]; decide) (by rw [c_4]; decide) (by rw [c_4]; rfl) (by decide) ?_
      refine lv_aload_n hx hb dX10_count_116 rfl (lv_at hl 0 rfl) ?_
      refine va_get (D := D) (ci := 9) (v := .ref (g_t_radar 0)) (C := RX10) (T := TX10) (N := 14) hx hb hts iw_X10_count_X10 hown hK hP 0 rfl rfl 0 (by decide) (hts _ fl_X10_count_10) (fun _ h9 => h9) rfl dX10_count_117 ?_
      refine va_get (D := D) (ci := 5) (v := .int t_radar_gapCount) (C := RX5) (T := TX5) (N := 13) hx hb hts iw_X10_count_X5 hown hK hP 1 rfl rfl 8 (by decide) (hts _ fl_X10_count_122) (fun _ h9 => h9) rfl dX10_count_120 ?_
      obtain rfl := Option.some.inj hF
      exact HR 123 H locs ls dX10_count_123 hP hD hS
    have hF := it_neg c_4 hF
    by_cases c_5 : x1 = (1 : Int32)
    · have hF := it_pos c_5 hF
      refine lv_tableIn (off := 157) (tgt := 180) hx hb dX10_count_23 (by rw [c_5]; decide) (by rw [c_5]; decide) (by rw [c_5]; rfl) (by decide) ?_
      refine lv_aload_n hx hb dX10_count_180 rfl (lv_at hl 0 rfl) ?_
      refine lv_iload_n hx hb dX10_count_181 rfl (lv_at hl 1 rfl) ?_
      obtain ⟨r_6, hc_7, hF⟩ := bn_some hF
      refine xc_i (wn := (w_X10_count K g_t g_t_radar g_t_draft g_t_text g_t_reader g_t_history g_t_echoes g_t_tracks g_t_dwelling g_t_chooser g_t_adviser t_radar_gapCount t_radar_targetCount t_radar_lookCount t_radar_time t_radar_gone t_radar_gaps t_radar_settings t_radar_spots t_radar_speeds t_radar_strengths t_text_size t_text_faultKind t_text_faultPlace t_history_oldest t_history_size r_6.2.1 r_6.2.2.1 r_6.2.2.2.1 r_6.2.2.2.2.1 r_6.2.2.2.2.2.1 r_6.2.2.2.2.2.2)) hP hD hS C0.2.2.1 [0, 1, 2, 3, 4, 5, 6, 9, 10, 11, 12, 13, 14] [7, 8] [2, 3, 4, 5, 6, 7, 8, 0, 1, 9, 10, 11, 12, 13, 14] rfl rfl (by decide) (by decide) rfl (by decide) (va_runV (As := [.int x1]) (rest := []) C0.1 (c_X10_countHeard l D K g_t g_t_radar g_t_draft g_t_text g_t_reader g_t_history g_t_echoes g_t_tracks g_t_dwelling g_t_chooser g_t_adviser t_radar_gapCount t_radar_targetCount t_radar_lookCount t_radar_time t_radar_gone t_radar_gaps t_radar_settings t_radar_spots t_radar_speeds t_radar_strengths t_echoes_shownCount t_echoes_targets t_echoes_loud t_echoes_hitBits t_echoes_shown t_echoes_took x1 r_6 hc_7 H.size) (cwV 1 hts gX10_count_X10_countHeard rfl rfl rfl (by decide +kernel) ⟨Nat.le_of_ble_eq_true rfl, Nat.le_of_ble_eq_true rfl⟩) (xp_V C0.2 hP hD hS [0, 1, 2, 3, 4, 5, 6, 9, 10, 11, 12, 13, 14] rfl (by decide) 9 0 rfl rfl rfl) rfl rfl hl.1 rfl (lv_room (Nat.le_of_ble_eq_true rfl)) dX10_count_182 ⟨Nat.le_of_ble_eq_true rfl, Nat.le_of_ble_eq_true rfl⟩) (fun H locs hP hD hS => ?_)
      obtain rfl := Option.some.inj hF
      exact HR 185 H locs ls dX10_count_185 hP hD hS
    have hF := it_neg c_5 hF
    by_cases c_8 : x1 = (2 : Int32)
    · have hF := it_pos c_8 hF
      refine lv_tableIn (off := 157) (tgt := 180) hx hb dX10_count_23 (by rw [c_8]; decide) (by rw [c_8]; decide) (by rw [c_8]; rfl) (by decide) ?_
      refine lv_aload_n hx hb dX10_count_180 rfl (lv_at hl 0 rfl) ?_
      refine lv_iload_n hx hb dX10_count_181 rfl (lv_at hl 1 rfl) ?_
      obtain ⟨r_9, hc_10, hF⟩ := bn_some hF
      refine xc_i (wn := (w_X10_count K g_t g_t_radar g_t_draft g_t_text g_t_reader g_t_history g_t_echoes g_t_tracks g_t_dwelling g_t_chooser g_t_adviser t_radar_gapCount t_radar_targetCount t_radar_lookCount t_radar_time t_radar_gone t_radar_gaps t_radar_settings t_radar_spots t_radar_speeds t_radar_strengths t_text_size t_text_faultKind t_text_faultPlace t_history_oldest t_history_size r_9.2.1 r_9.2.2.1 r_9.2.2.2.1 r_9.2.2.2.2.1 r_9.2.2.2.2.2.1 r_9.2.2.2.2.2.2)) hP hD hS C0.2.2.1 [0, 1, 2, 3, 4, 5, 6, 9, 10, 11, 12, 13, 14] [7, 8] [2, 3, 4, 5, 6, 7, 8, 0, 1, 9, 10, 11, 12, 13, 14] rfl rfl (by decide) (by decide) rfl (by decide) (va_runV (As := [.int x1]) (rest := []) C0.1 (c_X10_countHeard l D K g_t g_t_radar g_t_draft g_t_text g_t_reader g_t_history g_t_echoes g_t_tracks g_t_dwelling g_t_chooser g_t_adviser t_radar_gapCount t_radar_targetCount t_radar_lookCount t_radar_time t_radar_gone t_radar_gaps t_radar_settings t_radar_spots t_radar_speeds t_radar_strengths t_echoes_shownCount t_echoes_targets t_echoes_loud t_echoes_hitBits t_echoes_shown t_echoes_took x1 r_9 hc_10 H.size) (cwV 1 hts gX10_count_X10_countHeard rfl rfl rfl (by decide +kernel) ⟨Nat.le_of_ble_eq_true rfl, Nat.le_of_ble_eq_true rfl⟩) (xp_V C0.2 hP hD hS [0, 1, 2, 3, 4, 5, 6, 9, 10, 11, 12, 13, 14] rfl (by decide) 9 0 rfl rfl rfl) rfl rfl hl.1 rfl (lv_room (Nat.le_of_ble_eq_true rfl)) dX10_count_182 ⟨Nat.le_of_ble_eq_true rfl, Nat.le_of_ble_eq_true rfl⟩) (fun H locs hP hD hS => ?_)
      obtain rfl := Option.some.inj hF
      exact HR 185 H locs ls dX10_count_185 hP hD hS
    have hF := it_neg c_8 hF
    by_cases c_11 : x1 = (3 : Int32)
    · have hF := it_pos c_11 hF
      refine lv_tableIn (off := 157) (tgt := 180) hx hb dX10_count_23 (by rw [c_11]; decide) (by rw [c_11]; decide) (by rw [c_11]; rfl) (by decide) ?_
      refine lv_aload_n hx hb dX10_count_180 rfl (lv_at hl 0 rfl) ?_
      refine lv_iload_n hx hb dX10_count_181 rfl (lv_at hl 1 rfl) ?_
      obtain ⟨r_12, hc_13, hF⟩ := bn_some hF
      refine xc_i (wn := (w_X10_count K g_t g_t_radar g_t_draft g_t_text g_t_reader g_t_history g_t_echoes g_t_tracks g_t_dwelling g_t_chooser g_t_adviser t_radar_gapCount t_radar_targetCount t_radar_lookCount t_radar_time t_radar_gone t_radar_gaps t_radar_settings t_radar_spots t_radar_speeds t_radar_strengths t_text_size t_text_faultKind t_text_faultPlace t_history_oldest t_history_size r_12.2.1 r_12.2.2.1 r_12.2.2.2.1 r_12.2.2.2.2.1 r_12.2.2.2.2.2.1 r_12.2.2.2.2.2.2)) hP hD hS C0.2.2.1 [0, 1, 2, 3, 4, 5, 6, 9, 10, 11, 12, 13, 14] [7, 8] [2, 3, 4, 5, 6, 7, 8, 0, 1, 9, 10, 11, 12, 13, 14] rfl rfl (by decide) (by decide) rfl (by decide) (va_runV (As := [.int x1]) (rest := []) C0.1 (c_X10_countHeard l D K g_t g_t_radar g_t_draft g_t_text g_t_reader g_t_history g_t_echoes g_t_tracks g_t_dwelling g_t_chooser g_t_adviser t_radar_gapCount t_radar_targetCount t_radar_lookCount t_radar_time t_radar_gone t_radar_gaps t_radar_settings t_radar_spots t_radar_speeds t_radar_strengths t_echoes_shownCount t_echoes_targets t_echoes_loud t_echoes_hitBits t_echoes_shown t_echoes_took x1 r_12 hc_13 H.size) (cwV 1 hts gX10_count_X10_countHeard rfl rfl rfl (by decide +kernel) ⟨Nat.le_of_ble_eq_true rfl, Nat.le_of_ble_eq_true rfl⟩) (xp_V C0.2 hP hD hS [0, 1, 2, 3, 4, 5, 6, 9, 10, 11, 12, 13, 14] rfl (by decide) 9 0 rfl rfl rfl) rfl rfl hl.1 rfl (lv_room (Nat.le_of_ble_eq_true rfl)) dX10_count_182 ⟨Nat.le_of_ble_eq_true rfl, Nat.le_of_ble_eq_true rfl⟩) (fun H locs hP hD hS => ?_)
      obtain rfl := Option.some.inj hF
      exact HR 185 H locs ls dX10_count_185 hP hD hS
    have hF := it_neg c_11 hF
    by_cases c_14 : x1 = (4 : Int32)
    · have hF := it_pos c_14 hF
      refine lv_tableIn (off := 157) (tgt := 180) hx hb dX10_count_23 (by rw [c_14]; decide) (by rw [c_14]; decide) (by rw [c_14]; rfl) (by decide) ?_
      refine lv_aload_n hx hb dX10_count_180 rfl (lv_at hl 0 rfl) ?_
      refine lv_iload_n hx hb dX10_count_181 rfl (lv_at hl 1 rfl) ?_
      obtain ⟨r_15, hc_16, hF⟩ := bn_some hF
      refine xc_i (wn := (w_X10_count K g_t g_t_radar g_t_draft g_t_text g_t_reader g_t_history g_t_echoes g_t_tracks g_t_dwelling g_t_chooser g_t_adviser t_radar_gapCount t_radar_targetCount t_radar_lookCount t_radar_time t_radar_gone t_radar_gaps t_radar_settings t_radar_spots t_radar_speeds t_radar_strengths t_text_size t_text_faultKind t_text_faultPlace t_history_oldest t_history_size r_15.2.1 r_15.2.2.1 r_15.2.2.2.1 r_15.2.2.2.2.1 r_15.2.2.2.2.2.1 r_15.2.2.2.2.2.2)) hP hD hS C0.2.2.1 [0, 1, 2, 3, 4, 5, 6, 9, 10, 11, 12, 13, 14] [7, 8] [2, 3, 4, 5, 6, 7, 8, 0, 1, 9, 10, 11, 12, 13, 14] rfl rfl (by decide) (by decide) rfl (by decide) (va_runV (As := [.int x1]) (rest := []) C0.1 (c_X10_countHeard l D K g_t g_t_radar g_t_draft g_t_text g_t_reader g_t_history g_t_echoes g_t_tracks g_t_dwelling g_t_chooser g_t_adviser t_radar_gapCount t_radar_targetCount t_radar_lookCount t_radar_time t_radar_gone t_radar_gaps t_radar_settings t_radar_spots t_radar_speeds t_radar_strengths t_echoes_shownCount t_echoes_targets t_echoes_loud t_echoes_hitBits t_echoes_shown t_echoes_took x1 r_15 hc_16 H.size) (cwV 1 hts gX10_count_X10_countHeard rfl rfl rfl (by decide +kernel) ⟨Nat.le_of_ble_eq_true rfl, Nat.le_of_ble_eq_true rfl⟩) (xp_V C0.2 hP hD hS [0, 1, 2, 3, 4, 5, 6, 9, 10, 11, 12, 13, 14] rfl (by decide) 9 0 rfl rfl rfl) rfl rfl hl.1 rfl (lv_room (Nat.le_of_ble_eq_true rfl)) dX10_count_182 ⟨Nat.le_of_ble_eq_true rfl, Nat.le_of_ble_eq_true rfl⟩) (fun H locs hP hD hS => ?_)
      obtain rfl := Option.some.inj hF
      exact HR 185 H locs ls dX10_count_185 hP hD hS
    have hF := it_neg c_14 hF
    by_cases c_17 : x1 = (5 : Int32)
    · have hF := it_pos c_17 hF
      refine lv_tableIn (off := 157) (tgt := 180) hx hb dX10_count_23 (by rw [c_17]; decide) (by rw [c_17]; decide) (by rw [c_17]; rfl) (by decide) ?_
      refine lv_aload_n hx hb dX10_count_180 rfl (lv_at hl 0 rfl) ?_
      refine lv_iload_n hx hb dX10_count_181 rfl (lv_at hl 1 rfl) ?_
      obtain ⟨r_18, hc_19, hF⟩ := bn_some hF
      refine xc_i (wn := (w_X10_count K g_t g_t_radar g_t_draft g_t_text g_t_reader g_t_history g_t_echoes g_t_tracks g_t_dwelling g_t_chooser g_t_adviser t_radar_gapCount t_radar_targetCount t_radar_lookCount t_radar_time t_radar_gone t_radar_gaps t_radar_settings t_radar_spots t_radar_speeds t_radar_strengths t_text_size t_text_faultKind t_text_faultPlace t_history_oldest t_history_size r_18.2.1 r_18.2.2.1 r_18.2.2.2.1 r_18.2.2.2.2.1 r_18.2.2.2.2.2.1 r_18.2.2.2.2.2.2)) hP hD hS C0.2.2.1 [0, 1, 2, 3, 4, 5, 6, 9, 10, 11, 12, 13, 14] [7, 8] [2, 3, 4, 5, 6, 7, 8, 0, 1, 9, 10, 11, 12, 13, 14] rfl rfl (by decide) (by decide) rfl (by decide) (va_runV (As := [.int x1]) (rest := []) C0.1 (c_X10_countHeard l D K g_t g_t_radar g_t_draft g_t_text g_t_reader g_t_history g_t_echoes g_t_tracks g_t_dwelling g_t_chooser g_t_adviser t_radar_gapCount t_radar_targetCount t_radar_lookCount t_radar_time t_radar_gone t_radar_gaps t_radar_settings t_radar_spots t_radar_speeds t_radar_strengths t_echoes_shownCount t_echoes_targets t_echoes_loud t_echoes_hitBits t_echoes_shown t_echoes_took x1 r_18 hc_19 H.size) (cwV 1 hts gX10_count_X10_countHeard rfl rfl rfl (by decide +kernel) ⟨Nat.le_of_ble_eq_true rfl, Nat.le_of_ble_eq_true rfl⟩) (xp_V C0.2 hP hD hS [0, 1, 2, 3, 4, 5, 6, 9, 10, 11, 12, 13, 14] rfl (by decide) 9 0 rfl rfl rfl) rfl rfl hl.1 rfl (lv_room (Nat.le_of_ble_eq_true rfl)) dX10_count_182 ⟨Nat.le_of_ble_eq_true rfl, Nat.le_of_ble_eq_true rfl⟩) (fun H locs hP hD hS => ?_)
      obtain rfl := Option.some.inj hF
      exact HR 185 H locs ls dX10_count_185 hP hD hS
    have hF := it_neg c_17 hF
    by_cases c_20 : x1 = (6 : Int32)
    · have hF := it_pos c_20 hF
      refine lv_tableIn (off := 157) (tgt := 180) hx hb dX10_count_23 (by rw [c_20]; decide) (by rw [c_20]; decide) (by rw [c_20]; rfl) (by decide) ?_
      refine lv_aload_n hx hb dX10_count_180 rfl (lv_at hl 0 rfl) ?_
      refine lv_iload_n hx hb dX10_count_181 rfl (lv_at hl 1 rfl) ?_
      obtain ⟨r_21, hc_22, hF⟩ := bn_some hF
      refine xc_i (wn := (w_X10_count K g_t g_t_radar g_t_draft g_t_text g_t_reader g_t_history g_t_echoes g_t_tracks g_t_dwelling g_t_chooser g_t_adviser t_radar_gapCount t_radar_targetCount t_radar_lookCount t_radar_time t_radar_gone t_radar_gaps t_radar_settings t_radar_spots t_radar_speeds t_radar_strengths t_text_size t_text_faultKind t_text_faultPlace t_history_oldest t_history_size r_21.2.1 r_21.2.2.1 r_21.2.2.2.1 r_21.2.2.2.2.1 r_21.2.2.2.2.2.1 r_21.2.2.2.2.2.2)) hP hD hS C0.2.2.1 [0, 1, 2, 3, 4, 5, 6, 9, 10, 11, 12, 13, 14] [7, 8] [2, 3, 4, 5, 6, 7, 8, 0, 1, 9, 10, 11, 12, 13, 14] rfl rfl (by decide) (by decide) rfl (by decide) (va_runV (As := [.int x1]) (rest := []) C0.1 (c_X10_countHeard l D K g_t g_t_radar g_t_draft g_t_text g_t_reader g_t_history g_t_echoes g_t_tracks g_t_dwelling g_t_chooser g_t_adviser t_radar_gapCount t_radar_targetCount t_radar_lookCount t_radar_time t_radar_gone t_radar_gaps t_radar_settings t_radar_spots t_radar_speeds t_radar_strengths t_echoes_shownCount t_echoes_targets t_echoes_loud t_echoes_hitBits t_echoes_shown t_echoes_took x1 r_21 hc_22 H.size) (cwV 1 hts gX10_count_X10_countHeard rfl rfl rfl (by decide +kernel) ⟨Nat.le_of_ble_eq_true rfl, Nat.le_of_ble_eq_true rfl⟩) (xp_V C0.2 hP hD hS [0, 1, 2, 3, 4, 5, 6, 9, 10, 11, 12, 13, 14] rfl (by decide) 9 0 rfl rfl rfl) rfl rfl hl.1 rfl (lv_room (Nat.le_of_ble_eq_true rfl)) dX10_count_182 ⟨Nat.le_of_ble_eq_true rfl, Nat.le_of_ble_eq_true rfl⟩) (fun H locs hP hD hS => ?_)
      obtain rfl := Option.some.inj hF
      exact HR 185 H locs ls dX10_count_185 hP hD hS
    have hF := it_neg c_20 hF
    by_cases c_23 : x1 = (7 : Int32)
    · have hF := it_pos c_23 hF
      refine lv_tableIn (off := 157) (tgt := 180) hx hb dX10_count_23 (by rw [c_23]; decide) (by rw [c_23]; decide) (by rw [c_23]; rfl) (by decide) ?_
      refine lv_aload_n hx hb dX10_count_180 rfl (lv_at hl 0 rfl) ?_
      refine lv_iload_n hx hb dX10_count_181 rfl (lv_at hl 1 rfl) ?_
      obtain ⟨r_24, hc_25, hF⟩ := bn_some hF
      refine xc_i (wn := (w_X10_count K g_t g_t_radar g_t_draft g_t_text g_t_reader g_t_history g_t_echoes g_t_tracks g_t_dwelling g_t_chooser g_t_adviser t_radar_gapCount t_radar_targetCount t_radar_lookCount t_radar_time t_radar_gone t_radar_gaps t_radar_settings t_radar_spots t_radar_speeds t_radar_strengths t_text_size t_text_faultKind t_text_faultPlace t_history_oldest t_history_size r_24.2.1 r_24.2.2.1 r_24.2.2.2.1 r_24.2.2.2.2.1 r_24.2.2.2.2.2.1 r_24.2.2.2.2.2.2)) hP hD hS C0.2.2.1 [0, 1, 2, 3, 4, 5, 6, 9, 10, 11, 12, 13, 14] [7, 8] [2, 3, 4, 5, 6, 7, 8, 0, 1, 9, 10, 11, 12, 13, 14] rfl rfl (by decide) (by decide) rfl (by decide) (va_runV (As := [.int x1]) (rest := []) C0.1 (c_X10_countHeard l D K g_t g_t_radar g_t_draft g_t_text g_t_reader g_t_history g_t_echoes g_t_tracks g_t_dwelling g_t_chooser g_t_adviser t_radar_gapCount t_radar_targetCount t_radar_lookCount t_radar_time t_radar_gone t_radar_gaps t_radar_settings t_radar_spots t_radar_speeds t_radar_strengths t_echoes_shownCount t_echoes_targets t_echoes_loud t_echoes_hitBits t_echoes_shown t_echoes_took x1 r_24 hc_25 H.size) (cwV 1 hts gX10_count_X10_countHeard rfl rfl rfl (by decide +kernel) ⟨Nat.le_of_ble_eq_true rfl, Nat.le_of_ble_eq_true rfl⟩) (xp_V C0.2 hP hD hS [0, 1, 2, 3, 4, 5, 6, 9, 10, 11, 12, 13, 14] rfl (by decide) 9 0 rfl rfl rfl) rfl rfl hl.1 rfl (lv_room (Nat.le_of_ble_eq_true rfl)) dX10_count_182 ⟨Nat.le_of_ble_eq_true rfl, Nat.le_of_ble_eq_true rfl⟩) (fun H locs hP hD hS => ?_)
      obtain rfl := Option.some.inj hF
      exact HR 185 H locs ls dX10_count_185 hP hD hS
    have hF := it_neg c_23 hF
    by_cases c_26 : x1 = (8 : Int32)
    · have hF := it_pos c_26 hF
      refine lv_tableIn (off := 101) (tgt := 124) hx hb dX10_count_23 (by rw [c_26]; decide) (by rw [c_26]; decide) (by rw [c_26]; rfl) (by decide) ?_
      refine lv_aload_n hx hb dX10_count_124 rfl (lv_at hl 0 rfl) ?_
      refine va_get (D := D) (ci := 9) (v := .ref (g_t_radar 0)) (C := RX10) (T := TX10) (N := 14) hx hb hts iw_X10_count_X10 hown hK hP 0 rfl rfl 0 (by decide) (hts _ fl_X10_count_10) (fun _ h9 => h9) rfl dX10_count_125 ?_
      refine va_get (D := D) (ci := 5) (v := .int t_radar_targetCount) (C := RX5) (T := TX5) (N := 13) hx hb hts iw_X10_count_X5 hown hK hP 1 rfl rfl 9 (by decide) (hts _ fl_X10_count_158) (fun _ h9 => h9) rfl dX10_count_128 ?_
      obtain rfl := Option.some.inj hF
      exact HR 131 H locs ls dX10_count_131 hP hD hS
    have hF := it_neg c_26 hF
    by_cases c_27 : x1 = (9 : Int32)
    · have hF := it_pos c_27 hF
      refine lv_tableIn (off := 109) (tgt := 132) hx hb dX10_count_23 (by rw [c_27]; decide) (by rw [c_27]; decide) (by rw [c_27]; rfl) (by decide) ?_
      refine lv_aload_n hx hb dX10_count_132 rfl (lv_at hl 0 rfl) ?_
      refine va_get (D := D) (ci := 9) (v := .ref (g_t_radar 0)) (C := RX10) (T := TX10) (N := 14) hx hb hts iw_X10_count_X10 hown hK hP 0 rfl rfl 0 (by decide) (hts _ fl_X10_count_10) (fun _ h9 => h9) rfl dX10_count_133 ?_
      refine va_get (D := D) (ci := 5) (v := .int t_radar_time) (C := RX5) (T := TX5) (N := 13) hx hb hts iw_X10_count_X5 hown hK hP 1 rfl rfl 11 (by decide) (hts _ fl_X10_count_171) (fun _ h9 => h9) rfl dX10_count_136 ?_
      obtain rfl := Option.some.inj hF
      exact HR 139 H locs ls dX10_count_139 hP hD hS
    have hF := it_neg c_27 hF
    by_cases c_28 : x1 = (10 : Int32)
    · have hF := it_pos c_28 hF
      refine lv_tableIn (off := 117) (tgt := 140) hx hb dX10_count_23 (by rw [c_28]; decide) (by rw [c_28]; decide) (by rw [c_28]; rfl) (by decide) ?_
      refine lv_aload_n hx hb dX10_count_140 rfl (lv_at hl 0 rfl) ?_
      refine va_get (D := D) (ci := 9) (v := .ref (g_t_radar 0)) (C := RX10) (T := TX10) (N := 14) hx hb hts iw_X10_count_X10 hown hK hP 0 rfl rfl 0 (by decide) (hts _ fl_X10_count_10) (fun _ h9 => h9) rfl dX10_count_141 ?_
      refine va_get (D := D) (ci := 5) (v := .int t_radar_gone) (C := RX5) (T := TX5) (N := 13) hx hb hts iw_X10_count_X5 hown hK hP 1 rfl rfl 12 (by decide) (hts _ fl_X10_count_210) (fun _ h9 => h9) rfl dX10_count_144 ?_
      obtain rfl := Option.some.inj hF
      exact HR 147 H locs ls dX10_count_147 hP hD hS
    have hF := it_neg c_28 hF
    by_cases c_29 : x1 = (11 : Int32)
    · have hF := it_pos c_29 hF
      refine lv_tableIn (off := 125) (tgt := 148) hx hb dX10_count_23 (by rw [c_29]; decide) (by rw [c_29]; decide) (by rw [c_29]; rfl) (by decide) ?_
      refine lv_aload_n hx hb dX10_count_148 rfl (lv_at hl 0 rfl) ?_
      refine va_get (D := D) (ci := 9) (v := .ref (g_t_radar 0)) (C := RX10) (T := TX10) (N := 14) hx hb hts iw_X10_count_X10 hown hK hP 0 rfl rfl 0 (by decide) (hts _ fl_X10_count_10) (fun _ h9 => h9) rfl dX10_count_149 ?_
      obtain ⟨r_30, hc_31, hF⟩ := bn_some hF
      refine xc_i (wn := (w_X10_count K g_t g_t_radar g_t_draft g_t_text g_t_reader g_t_history g_t_echoes g_t_tracks g_t_dwelling g_t_chooser g_t_adviser t_radar_gapCount t_radar_targetCount t_radar_lookCount t_radar_time t_radar_gone t_radar_gaps t_radar_settings t_radar_spots t_radar_speeds t_radar_strengths t_text_size t_text_faultKind t_text_faultPlace t_history_oldest t_history_size t_echoes_shownCount t_echoes_targets t_echoes_loud t_echoes_hitBits t_echoes_shown t_echoes_took)) hP hD hS C0.2.2.1 [1, 2, 3] [0, 4, 5, 6, 7, 8, 9, 10, 11, 12, 13, 14] [0, 12, 13, 14, 1, 2, 3, 4, 5, 6, 7, 8, 9, 10, 11] rfl rfl (by decide) (by decide) rfl (by decide) (va_runS (As := [.ref (g_t_radar 0)]) (rest := []) C0.1 (c_X7_countDark l D K g_t_radar t_radar_gapCount t_radar_targetCount t_radar_lookCount t_radar_time t_radar_gone t_radar_gaps t_radar_settings r_30 hc_31 H.size) (va_cwS 1 hts gX10_count_X7_countDark rfl rfl rfl (by decide +kernel) ⟨Nat.le_of_ble_eq_true rfl, Nat.le_of_ble_eq_true rfl⟩) (xp_S C0.2 hP hD hS [1, 2, 3] rfl (by decide)) rfl rfl hl.1 rfl (lv_room (Nat.le_of_ble_eq_true rfl)) dX10_count_152 ⟨Nat.le_of_ble_eq_true rfl, Nat.le_of_ble_eq_true rfl⟩) (fun H locs hP hD hS => ?_)
      obtain rfl := Option.some.inj hF
      exact HR 155 H locs ls dX10_count_155 hP hD hS
    have hF := it_neg c_29 hF
    by_cases c_32 : x1 = (12 : Int32)
    · have hF := it_pos c_32 hF
      refine lv_tableIn (off := 157) (tgt := 180) hx hb dX10_count_23 (by rw [c_32]; decide) (by rw [c_32]; decide) (by rw [c_32]; rfl) (by decide) ?_
      refine lv_aload_n hx hb dX10_count_180 rfl (lv_at hl 0 rfl) ?_
      refine lv_iload_n hx hb dX10_count_181 rfl (lv_at hl 1 rfl) ?_
      obtain ⟨r_33, hc_34, hF⟩ := bn_some hF
      refine xc_i (wn := (w_X10_count K g_t g_t_radar g_t_draft g_t_text g_t_reader g_t_history g_t_echoes g_t_tracks g_t_dwelling g_t_chooser g_t_adviser t_radar_gapCount t_radar_targetCount t_radar_lookCount t_radar_time t_radar_gone t_radar_gaps t_radar_settings t_radar_spots t_radar_speeds t_radar_strengths t_text_size t_text_faultKind t_text_faultPlace t_history_oldest t_history_size r_33.2.1 r_33.2.2.1 r_33.2.2.2.1 r_33.2.2.2.2.1 r_33.2.2.2.2.2.1 r_33.2.2.2.2.2.2)) hP hD hS C0.2.2.1 [0, 1, 2, 3, 4, 5, 6, 9, 10, 11, 12, 13, 14] [7, 8] [2, 3, 4, 5, 6, 7, 8, 0, 1, 9, 10, 11, 12, 13, 14] rfl rfl (by decide) (by decide) rfl (by decide) (va_runV (As := [.int x1]) (rest := []) C0.1 (c_X10_countHeard l D K g_t g_t_radar g_t_draft g_t_text g_t_reader g_t_history g_t_echoes g_t_tracks g_t_dwelling g_t_chooser g_t_adviser t_radar_gapCount t_radar_targetCount t_radar_lookCount t_radar_time t_radar_gone t_radar_gaps t_radar_settings t_radar_spots t_radar_speeds t_radar_strengths t_echoes_shownCount t_echoes_targets t_echoes_loud t_echoes_hitBits t_echoes_shown t_echoes_took x1 r_33 hc_34 H.size) (cwV 1 hts gX10_count_X10_countHeard rfl rfl rfl (by decide +kernel) ⟨Nat.le_of_ble_eq_true rfl, Nat.le_of_ble_eq_true rfl⟩) (xp_V C0.2 hP hD hS [0, 1, 2, 3, 4, 5, 6, 9, 10, 11, 12, 13, 14] rfl (by decide) 9 0 rfl rfl rfl) rfl rfl hl.1 rfl (lv_room (Nat.le_of_ble_eq_true rfl)) dX10_count_182 ⟨Nat.le_of_ble_eq_true rfl, Nat.le_of_ble_eq_true rfl⟩) (fun H locs hP hD hS => ?_)
      obtain rfl := Option.some.inj hF
      exact HR 185 H locs ls dX10_count_185 hP hD hS
    have hF := it_neg c_32 hF
    by_cases c_35 : x1 = (13 : Int32)
    · have hF := it_pos c_35 hF
      refine lv_tableIn (off := 157) (tgt := 180) hx hb dX10_count_23 (by rw [c_35]; decide) (by rw [c_35]; decide) (by rw [c_35]; rfl) (by decide) ?_
      refine lv_aload_n hx hb dX10_count_180 rfl (lv_at hl 0 rfl) ?_
      refine lv_iload_n hx hb dX10_count_181 rfl (lv_at hl 1 rfl) ?_
      obtain ⟨r_36, hc_37, hF⟩ := bn_some hF
      refine xc_i (wn := (w_X10_count K g_t g_t_radar g_t_draft g_t_text g_t_reader g_t_history g_t_echoes g_t_tracks g_t_dwelling g_t_chooser g_t_adviser t_radar_gapCount t_radar_targetCount t_radar_lookCount t_radar_time t_radar_gone t_radar_gaps t_radar_settings t_radar_spots t_radar_speeds t_radar_strengths t_text_size t_text_faultKind t_text_faultPlace t_history_oldest t_history_size r_36.2.1 r_36.2.2.1 r_36.2.2.2.1 r_36.2.2.2.2.1 r_36.2.2.2.2.2.1 r_36.2.2.2.2.2.2)) hP hD hS C0.2.2.1 [0, 1, 2, 3, 4, 5, 6, 9, 10, 11, 12, 13, 14] [7, 8] [2, 3, 4, 5, 6, 7, 8, 0, 1, 9, 10, 11, 12, 13, 14] rfl rfl (by decide) (by decide) rfl (by decide) (va_runV (As := [.int x1]) (rest := []) C0.1 (c_X10_countHeard l D K g_t g_t_radar g_t_draft g_t_text g_t_reader g_t_history g_t_echoes g_t_tracks g_t_dwelling g_t_chooser g_t_adviser t_radar_gapCount t_radar_targetCount t_radar_lookCount t_radar_time t_radar_gone t_radar_gaps t_radar_settings t_radar_spots t_radar_speeds t_radar_strengths t_echoes_shownCount t_echoes_targets t_echoes_loud t_echoes_hitBits t_echoes_shown t_echoes_took x1 r_36 hc_37 H.size) (cwV 1 hts gX10_count_X10_countHeard rfl rfl rfl (by decide +kernel) ⟨Nat.le_of_ble_eq_true rfl, Nat.le_of_ble_eq_true rfl⟩) (xp_V C0.2 hP hD hS [0, 1, 2, 3, 4, 5, 6, 9, 10, 11, 12, 13, 14] rfl (by decide) 9 0 rfl rfl rfl) rfl rfl hl.1 rfl (lv_room (Nat.le_of_ble_eq_true rfl)) dX10_count_182 ⟨Nat.le_of_ble_eq_true rfl, Nat.le_of_ble_eq_true rfl⟩) (fun H locs hP hD hS => ?_)
      obtain rfl := Option.some.inj hF
      exact HR 185 H locs ls dX10_count_185 hP hD hS
    have hF := it_neg c_35 hF
    by_cases c_38 : x1 = (14 : Int32)
    · have hF := it_pos c_38 hF
      refine lv_tableIn (off := 157) (tgt := 180) hx hb dX10_count_23 (by rw [c_38]; decide) (by rw [c_38]; decide) (by rw [c_38]; rfl) (by decide) ?_
      refine lv_aload_n hx hb dX10_count_180 rfl (lv_at hl 0 rfl) ?_
      refine lv_iload_n hx hb dX10_count_181 rfl (lv_at hl 1 rfl) ?_
      obtain ⟨r_39, hc_40, hF⟩ := bn_some hF
      refine xc_i (wn := (w_X10_count K g_t g_t_radar g_t_draft g_t_text g_t_reader g_t_history g_t_echoes g_t_tracks g_t_dwelling g_t_chooser g_t_adviser t_radar_gapCount t_radar_targetCount t_radar_lookCount t_radar_time t_radar_gone t_radar_gaps t_radar_settings t_radar_spots t_radar_speeds t_radar_strengths t_text_size t_text_faultKind t_text_faultPlace t_history_oldest t_history_size r_39.2.1 r_39.2.2.1 r_39.2.2.2.1 r_39.2.2.2.2.1 r_39.2.2.2.2.2.1 r_39.2.2.2.2.2.2)) hP hD hS C0.2.2.1 [0, 1, 2, 3, 4, 5, 6, 9, 10, 11, 12, 13, 14] [7, 8] [2, 3, 4, 5, 6, 7, 8, 0, 1, 9, 10, 11, 12, 13, 14] rfl rfl (by decide) (by decide) rfl (by decide) (va_runV (As := [.int x1]) (rest := []) C0.1 (c_X10_countHeard l D K g_t g_t_radar g_t_draft g_t_text g_t_reader g_t_history g_t_echoes g_t_tracks g_t_dwelling g_t_chooser g_t_adviser t_radar_gapCount t_radar_targetCount t_radar_lookCount t_radar_time t_radar_gone t_radar_gaps t_radar_settings t_radar_spots t_radar_speeds t_radar_strengths t_echoes_shownCount t_echoes_targets t_echoes_loud t_echoes_hitBits t_echoes_shown t_echoes_took x1 r_39 hc_40 H.size) (cwV 1 hts gX10_count_X10_countHeard rfl rfl rfl (by decide +kernel) ⟨Nat.le_of_ble_eq_true rfl, Nat.le_of_ble_eq_true rfl⟩) (xp_V C0.2 hP hD hS [0, 1, 2, 3, 4, 5, 6, 9, 10, 11, 12, 13, 14] rfl (by decide) 9 0 rfl rfl rfl) rfl rfl hl.1 rfl (lv_room (Nat.le_of_ble_eq_true rfl)) dX10_count_182 ⟨Nat.le_of_ble_eq_true rfl, Nat.le_of_ble_eq_true rfl⟩) (fun H locs hP hD hS => ?_)
      obtain rfl := Option.some.inj hF
      exact HR 185 H locs ls dX10_count_185 hP hD hS
    have hF := it_neg c_38 hF
    by_cases c_41 : x1 = (15 : Int32)
    · have hF := it_pos c_41 hF
      refine lv_tableIn (off := 157) (tgt := 180) hx hb dX10_count_23 (by rw [c_41]; decide) (by rw [c_41]; decide) (by rw [c_41]; rfl) (by decide) ?_
      refine lv_aload_n hx hb dX10_count_180 rfl (lv_at hl 0 rfl) ?_
      refine lv_iload_n hx hb dX10_count_181 rfl (lv_at hl 1 rfl) ?_
      obtain ⟨r_42, hc_43, hF⟩ := bn_some hF
      refine xc_i (wn := (w_X10_count K g_t g_t_radar g_t_draft g_t_text g_t_reader g_t_history g_t_echoes g_t_tracks g_t_dwelling g_t_chooser g_t_adviser t_radar_gapCount t_radar_targetCount t_radar_lookCount t_radar_time t_radar_gone t_radar_gaps t_radar_settings t_radar_spots t_radar_speeds t_radar_strengths t_text_size t_text_faultKind t_text_faultPlace t_history_oldest t_history_size r_42.2.1 r_42.2.2.1 r_42.2.2.2.1 r_42.2.2.2.2.1 r_42.2.2.2.2.2.1 r_42.2.2.2.2.2.2)) hP hD hS C0.2.2.1 [0, 1, 2, 3, 4, 5, 6, 9, 10, 11, 12, 13, 14] [7, 8] [2, 3, 4, 5, 6, 7, 8, 0, 1, 9, 10, 11, 12, 13, 14] rfl rfl (by decide) (by decide) rfl (by decide) (va_runV (As := [.int x1]) (rest := []) C0.1 (c_X10_countHeard l D K g_t g_t_radar g_t_draft g_t_text g_t_reader g_t_history g_t_echoes g_t_tracks g_t_dwelling g_t_chooser g_t_adviser t_radar_gapCount t_radar_targetCount t_radar_lookCount t_radar_time t_radar_gone t_radar_gaps t_radar_settings t_radar_spots t_radar_speeds t_radar_strengths t_echoes_shownCount t_echoes_targets t_echoes_loud t_echoes_hitBits t_echoes_shown t_echoes_took x1 r_42 hc_43 H.size) (cwV 1 hts gX10_count_X10_countHeard rfl rfl rfl (by decide +kernel) ⟨Nat.le_of_ble_eq_true rfl, Nat.le_of_ble_eq_true rfl⟩) (xp_V C0.2 hP hD hS [0, 1, 2, 3, 4, 5, 6, 9, 10, 11, 12, 13, 14] rfl (by decide) 9 0 rfl rfl rfl) rfl rfl hl.1 rfl (lv_room (Nat.le_of_ble_eq_true rfl)) dX10_count_182 ⟨Nat.le_of_ble_eq_true rfl, Nat.le_of_ble_eq_true rfl⟩) (fun H locs hP hD hS => ?_)
      obtain rfl := Option.some.inj hF
      exact HR 185 H locs ls dX10_count_185 hP hD hS
    have hF := it_neg c_41 hF
    by_cases c_44 : x1 = (16 : Int32)
    · have hF := it_pos c_44 hF
      refine lv_tableIn (off := 157) (tgt := 180) hx hb dX10_count_23 (by rw [c_44]; decide) (by rw [c_44]; decide) (by rw [c_44]; rfl) (by decide) ?_
      refine lv_aload_n hx hb dX10_count_180 rfl (lv_at hl 0 rfl) ?_
      refine lv_iload_n hx hb dX10_count_181 rfl (lv_at hl 1 rfl) ?_
      obtain ⟨r_45, hc_46, hF⟩ := bn_some hF
      refine xc_i (wn := (w_X10_count K g_t g_t_radar g_t_draft g_t_text g_t_reader g_t_history g_t_echoes g_t_tracks g_t_dwelling g_t_chooser g_t_adviser t_radar_gapCount t_radar_targetCount t_radar_lookCount t_radar_time t_radar_gone t_radar_gaps t_radar_settings t_radar_spots t_radar_speeds t_radar_strengths t_text_size t_text_faultKind t_text_faultPlace t_history_oldest t_history_size r_45.2.1 r_45.2.2.1 r_45.2.2.2.1 r_45.2.2.2.2.1 r_45.2.2.2.2.2.1 r_45.2.2.2.2.2.2)) hP hD hS C0.2.2.1 [0, 1, 2, 3, 4, 5, 6, 9, 10, 11, 12, 13, 14] [7, 8] [2, 3, 4, 5, 6, 7, 8, 0, 1, 9, 10, 11, 12, 13, 14] rfl rfl (by decide) (by decide) rfl (by decide) (va_runV (As := [.int x1]) (rest := []) C0.1 (c_X10_countHeard l D K g_t g_t_radar g_t_draft g_t_text g_t_reader g_t_history g_t_echoes g_t_tracks g_t_dwelling g_t_chooser g_t_adviser t_radar_gapCount t_radar_targetCount t_radar_lookCount t_radar_time t_radar_gone t_radar_gaps t_radar_settings t_radar_spots t_radar_speeds t_radar_strengths t_echoes_shownCount t_echoes_targets t_echoes_loud t_echoes_hitBits t_echoes_shown t_echoes_took x1 r_45 hc_46 H.size) (cwV 1 hts gX10_count_X10_countHeard rfl rfl rfl (by decide +kernel) ⟨Nat.le_of_ble_eq_true rfl, Nat.le_of_ble_eq_true rfl⟩) (xp_V C0.2 hP hD hS [0, 1, 2, 3, 4, 5, 6, 9, 10, 11, 12, 13, 14] rfl (by decide) 9 0 rfl rfl rfl) rfl rfl hl.1 rfl (lv_room (Nat.le_of_ble_eq_true rfl)) dX10_count_182 ⟨Nat.le_of_ble_eq_true rfl, Nat.le_of_ble_eq_true rfl⟩) (fun H locs hP hD hS => ?_)
      obtain rfl := Option.some.inj hF
      exact HR 185 H locs ls dX10_count_185 hP hD hS
    have hF := it_neg c_44 hF
    by_cases c_47 : x1 = (17 : Int32)
    · have hF := it_pos c_47 hF
      refine lv_tableIn (off := 133) (tgt := 156) hx hb dX10_count_23 (by rw [c_47]; decide) (by rw [c_47]; decide) (by rw [c_47]; rfl) (by decide) ?_
      refine lv_aload_n hx hb dX10_count_156 rfl (lv_at hl 0 rfl) ?_
      refine va_get (D := D) (ci := 9) (v := .ref (g_t_history 0)) (C := RX10) (T := TX10) (N := 14) hx hb hts iw_X10_count_X10 hown hK hP 0 rfl rfl 4 (by decide) (hts _ fl_X10_count_36) (fun _ h9 => h9) rfl dX10_count_157 ?_
      refine va_get (D := D) (ci := 4) (v := .int t_history_size) (C := RX4) (T := TX4) (N := 3) hx hb hts iw_X10_count_X4 hown hK hP 8 rfl rfl 2 (by decide) (hts _ fl_X10_count_206) (fun _ h9 => h9) rfl dX10_count_160 ?_
      obtain rfl := Option.some.inj hF
      exact HR 163 H locs ls dX10_count_163 hP hD hS
    have hF := it_neg c_47 hF
    by_cases c_48 : x1 = (18 : Int32)
    · have hF := it_pos c_48 hF
      refine lv_tableIn (off := 141) (tgt := 164) hx hb dX10_count_23 (by rw [c_48]; decide) (by rw [c_48]; decide) (by rw [c_48]; rfl) (by decide) ?_
      refine lv_aload_n hx hb dX10_count_164 rfl (lv_at hl 0 rfl) ?_
      refine va_get (D := D) (ci := 9) (v := .ref (g_t_text 0)) (C := RX10) (T := TX10) (N := 14) hx hb hts iw_X10_count_X10 hown hK hP 0 rfl rfl 2 (by decide) (hts _ fl_X10_count_22) (fun _ h9 => h9) rfl dX10_count_165 ?_
      refine va_get (D := D) (ci := 7) (v := .int t_text_size) (C := RX8) (T := TX8) (N := 4) hx hb hts iw_X10_count_X8 hown hK hP 7 rfl rfl 1 (by decide) (hts _ fl_X10_count_95) (fun _ h9 => h9) rfl dX10_count_168 ?_
      obtain rfl := Option.some.inj hF
      exact HR 171 H locs ls dX10_count_171 hP hD hS
    have hF := it_neg c_48 hF
    by_cases c_49 : x1 = (19 : Int32)
    · have hF := it_pos c_49 hF
      refine lv_tableIn (off := 149) (tgt := 172) hx hb dX10_count_23 (by rw [c_49]; decide) (by rw [c_49]; decide) (by rw [c_49]; rfl) (by decide) ?_
      refine lv_aload_n hx hb dX10_count_172 rfl (lv_at hl 0 rfl) ?_
      refine va_get (D := D) (ci := 9) (v := .ref (g_t_radar 0)) (C := RX10) (T := TX10) (N := 14) hx hb hts iw_X10_count_X10 hown hK hP 0 rfl rfl 0 (by decide) (hts _ fl_X10_count_10) (fun _ h9 => h9) rfl dX10_count_173 ?_
      refine va_get (D := D) (ci := 5) (v := .int t_radar_lookCount) (C := RX5) (T := TX5) (N := 13) hx hb hts iw_X10_count_X5 hown hK hP 1 rfl rfl 10 (by decide) (hts _ fl_X10_count_178) (fun _ h9 => h9) rfl dX10_count_176 ?_
      obtain rfl := Option.some.inj hF
      exact HR 179 H locs ls dX10_count_179 hP hD hS
    have hF := it_neg c_49 hF
    have qc_4 := lv_neT (a := 0) c_4 (by decide)
    have qc_5 := lv_neT (a := 1) c_5 (by decide)
    have qc_8 := lv_neT (a := 2) c_8 (by decide)
    have qc_11 := lv_neT (a := 3) c_11 (by decide)
    have qc_14 := lv_neT (a := 4) c_14 (by decide)
    have qc_17 := lv_neT (a := 5) c_17 (by decide)
    have qc_20 := lv_neT (a := 6) c_20 (by decide)
    have qc_23 := lv_neT (a := 7) c_23 (by decide)
    have qc_26 := lv_neT (a := 8) c_26 (by decide)
    have qc_27 := lv_neT (a := 9) c_27 (by decide)
    have qc_28 := lv_neT (a := 10) c_28 (by decide)
    have qc_29 := lv_neT (a := 11) c_29 (by decide)
    have qc_32 := lv_neT (a := 12) c_32 (by decide)
    have qc_35 := lv_neT (a := 13) c_35 (by decide)
    have qc_38 := lv_neT (a := 14) c_38 (by decide)
    have qc_41 := lv_neT (a := 15) c_41 (by decide)
    have qc_44 := lv_neT (a := 16) c_44 (by decide)
    have qc_47 := lv_neT (a := 17) c_47 (by decide)
    have qc_48 := lv_neT (a := 18) c_48 (by decide)
    have qc_49 := lv_neT (a := 19) c_49 (by decide)
    refine lv_tableOut (tgt := 180) hx hb dX10_count_23 (by omega) (by decide) ?_
    refine lv_aload_n hx hb dX10_count_180 rfl (lv_at hl 0 rfl) ?_
    refine lv_iload_n hx hb dX10_count_181 rfl (lv_at hl 1 rfl) ?_
    obtain ⟨r_51, hc_52, hF⟩ := bn_some hF
    refine xc_i (wn := (w_X10_count K g_t g_t_radar g_t_draft g_t_text g_t_reader g_t_history g_t_echoes g_t_tracks g_t_dwelling g_t_chooser g_t_adviser t_radar_gapCount t_radar_targetCount t_radar_lookCount t_radar_time t_radar_gone t_radar_gaps t_radar_settings t_radar_spots t_radar_speeds t_radar_strengths t_text_size t_text_faultKind t_text_faultPlace t_history_oldest t_history_size r_51.2.1 r_51.2.2.1 r_51.2.2.2.1 r_51.2.2.2.2.1 r_51.2.2.2.2.2.1 r_51.2.2.2.2.2.2)) hP hD hS C0.2.2.1 [0, 1, 2, 3, 4, 5, 6, 9, 10, 11, 12, 13, 14] [7, 8] [2, 3, 4, 5, 6, 7, 8, 0, 1, 9, 10, 11, 12, 13, 14] rfl rfl (by decide) (by decide) rfl (by decide) (va_runV (As := [.int x1]) (rest := []) C0.1 (c_X10_countHeard l D K g_t g_t_radar g_t_draft g_t_text g_t_reader g_t_history g_t_echoes g_t_tracks g_t_dwelling g_t_chooser g_t_adviser t_radar_gapCount t_radar_targetCount t_radar_lookCount t_radar_time t_radar_gone t_radar_gaps t_radar_settings t_radar_spots t_radar_speeds t_radar_strengths t_echoes_shownCount t_echoes_targets t_echoes_loud t_echoes_hitBits t_echoes_shown t_echoes_took x1 r_51 hc_52 H.size) (cwV 1 hts gX10_count_X10_countHeard rfl rfl rfl (by decide +kernel) ⟨Nat.le_of_ble_eq_true rfl, Nat.le_of_ble_eq_true rfl⟩) (xp_V C0.2 hP hD hS [0, 1, 2, 3, 4, 5, 6, 9, 10, 11, 12, 13, 14] rfl (by decide) 9 0 rfl rfl rfl) rfl rfl hl.1 rfl (lv_room (Nat.le_of_ble_eq_true rfl)) dX10_count_182 ⟨Nat.le_of_ble_eq_true rfl, Nat.le_of_ble_eq_true rfl⟩) (fun H locs hP hD hS => ?_)
    obtain rfl := Option.some.inj hF
    exact HR 185 H locs ls dX10_count_185 hP hD hS
  · have hF := it_neg c_3 hF
    refine lv_aload_n hx hb dX10_count_10 rfl (lv_at hl 0 rfl) ?_
    refine va_get (D := D) (ci := 9) (v := .ref (g_t_radar 0)) (C := RX10) (T := TX10) (N := 14) hx hb hts iw_X10_count_X10 hown hK hP 0 rfl rfl 0 (by decide) (hts _ fl_X10_count_10) (fun _ h9 => h9) rfl dX10_count_11 ?_
    refine va_get (D := D) (ci := 5) (v := .ref (g_t_radar 2)) (C := RX5) (T := TX5) (N := 13) hx hb hts iw_X10_count_X5 hown hK hP 1 rfl rfl 1 (by decide) (hts _ fl_X10_count_152) (fun _ h9 => h9) rfl dX10_count_14 ?_
    refine lv_iload_n hx hb dX10_count_17 rfl (lv_at hl 1 rfl) ?_
    refine lv_iconst (v := 1) hx hb dX10_count_18 (by decide) ?_
    refine lv_isub hx hb dX10_count_19 ?_
    obtain ⟨hg_53, hF⟩ := gd_some hF
    refine xl_i (f := t_radar_settings) hx hb hK hP 3 0 rfl rfl rfl (in_v hg_53) dX10_count_20 ?_
    obtain rfl := Option.some.inj hF
    exact HR 21 H locs ls dX10_count_21 hP hD hS

/-! StaggerRadar.Speeds.darkAt(LStaggerRadar$Radar;I)I -/
abbrev rmX7_darkAt : Room := { frames := 4, cells := 0, slots := 0, locals := 89 }
theorem fl_X7_darkAt_23 : Cond.fieldLink RX7 23 "StaggerRadar$Radar" "settings" "[I" ∈ wsX7_darkAt := by decide +kernel
theorem iw_X7_darkAt_X5 : ∀ w ∈ u_ws RX5 TX5 13, w ∈ wsX7_darkAt := by decide +kernel
abbrev w_X7_darkAt (K : Nat → ClassId) (g_p0 : Nat → Nat) (p0_gapCount : Int32) (p0_targetCount : Int32) (p0_lookCount : Int32) (p0_time : Int32) (p0_gone : Int32) (p0_gaps : Nat → Int32) (p0_settings : Nat → Int32) : va_W := [((g_p0 0), .inr (5, [.ref (g_p0 1), .ref (g_p0 2), .ref (g_p0 3), .ref (g_p0 4), .ref (g_p0 5), .ref (g_p0 6), .ref (g_p0 7), .ref (g_p0 8), .int p0_gapCount, .int p0_targetCount, .int p0_lookCount, .int p0_time, .int p0_gone])), ((g_p0 1), .inl (K 0, 5, .inl p0_gaps)), ((g_p0 2), .inl (K 0, 7, .inl p0_settings))]
def L_X7_darkAt_4 (p0_gapCount : Int32) (p0_gaps : Nat → Int32) (p0_settings : Nat → Int32) : Nat → Int32 → Int32 → Option (Int32)
  | 0, _, _ => none
  | n_ + 1, x2, x3 =>
    if (p0_settings 5) < x3 then (some (-1 : Int32)) else ((F_X7_countOpen p0_gapCount p0_gaps p0_settings x3).bind fun r_2 => (if (p0_settings 4) ≤ r_2 then (L_X7_darkAt_4 p0_gapCount p0_gaps p0_settings n_ x2 (x3 + (1 : Int32))) else (if x2 = (0 : Int32) then (some x3) else (L_X7_darkAt_4 p0_gapCount p0_gaps p0_settings n_ (x2 + (-1 : Int32)) (x3 + (1 : Int32))))))
set_option maxHeartbeats 4000000 in
set_option maxRecDepth 100000 in
theorem w_X7_darkAt_4 {p : Program} {l : Launch} {e : Env} {s : State} {m : MethodId} {args : Array Value} {below : List Frame} {meth : Method} {c : Code} {D : va_G} {K : Nat → ClassId} {A : Nat → Prop} {Q : State → Prop} (C0 : cx_ p s m args c cX7_darkAt 4 RX7 wsX7_darkAt D K A) {g_p0 : Nat → Nat} {p0_gapCount : Int32} {p0_targetCount : Int32} {p0_lookCount : Int32} {p0_time : Int32} {p0_gone : Int32} {p0_gaps : Nat → Int32} {p0_settings : Nat → Int32} {res : Int32} (HR : ∀ (pc : Nat) (H : Heap) (locs : List Loc) (ls : Array Slot), decode cX7_darkAt pc = .ok (.ireturn, 1) → va_P D vwCl (w_X7_darkAt K g_p0 p0_gapCount p0_targetCount p0_lookCount p0_time p0_gone p0_gaps p0_settings) H → va_D A (w_X7_darkAt K g_p0 p0_gapCount p0_targetCount p0_lookCount p0_time p0_gone p0_gaps p0_settings) → va_S A s.heap H locs → W p l e rmX7_darkAt s m args below meth c H locs 0 0 Q (F0 m pc ls [.int res]))  :
    ∀ (n_ : Nat) (x2 : Int32) (x3 : Int32) (H : Heap) (locs : List Loc) (ls : Array Slot), va_P D vwCl (w_X7_darkAt K g_p0 p0_gapCount p0_targetCount p0_lookCount p0_time p0_gone p0_gaps p0_settings) H → va_D A (w_X7_darkAt K g_p0 p0_gapCount p0_targetCount p0_lookCount p0_time p0_gone p0_gaps p0_settings) → va_S A s.heap H locs → lv_has ls 4 [(0, .ref (g_p0 0)), (2, .int x2), (3, .int x3)] → L_X7_darkAt_4 p0_gapCount p0_gaps p0_settings n_ x2 x3 = some res → W p l e rmX7_darkAt s m args below meth c H locs 0 0 Q (F0 m 4 ls []) := by
  obtain ⟨⟨hx, hb, hml, hown, hts⟩, hK, -⟩ := id C0
  intro n_
  induction n_ with
  | zero =>
    intro x2 x3 H locs ls hP hD hS hl hF
    exact no_s (show (none : Option (Int32)) = some res from hF)
  | succ n_ ih =>
    intro x2 x3 H locs ls hP hD hS hl hF
    rw [L_X7_darkAt_4] at hF
    refine lv_iload_n hx hb dX7_darkAt_4 rfl (lv_at hl 2 rfl) ?_
    refine lv_aload_n hx hb dX7_darkAt_5 rfl (lv_at hl 0 rfl) ?_
    refine va_get (D := D) (ci := 5) (v := .ref (g_p0 2)) (C := RX5) (T := TX5) (N := 13) hx hb hts iw_X7_darkAt_X5 hown hK hP 0 rfl rfl 1 (by decide) (hts _ fl_X7_darkAt_23) (fun _ h9 => h9) rfl dX7_darkAt_6 ?_
    refine lv_iconst (v := 5) hx hb dX7_darkAt_9 (by decide) ?_
    refine xl_i (f := p0_settings) hx hb hK hP 2 0 rfl rfl (k := 5) (by decide) (in_v (by decide)) dX7_darkAt_10 ?_
    refine lv_icmp_gt (tgt := 43) hx hb dX7_darkAt_11 (by decide) (fun c_1 => ?_) (fun c_1 => ?_)
    · have hF := it_pos c_1 hF
      refine lv_iconst (v := (-1)) hx hb dX7_darkAt_43 (by decide) ?_
      obtain rfl := Option.some.inj hF
      exact HR 44 H locs ls dX7_darkAt_44 hP hD hS
    · have hF := it_neg c_1 hF
      refine lv_aload_n hx hb dX7_darkAt_14 rfl (lv_at hl 0 rfl) ?_
      refine lv_iload_n hx hb dX7_darkAt_15 rfl (lv_at hl 2 rfl) ?_
      obtain ⟨r_2, hc_3, hF⟩ := bn_some hF
      refine xc_i (wn := (w_X7_darkAt K g_p0 p0_gapCount p0_targetCount p0_lookCount p0_time p0_gone p0_gaps p0_settings)) hP hD hS C0.2.2.1 [0, 1, 2] [] [0, 1, 2] rfl rfl (by decide) (by decide) rfl (by decide) (va_runS (As := [.ref (g_p0 0), .int x3]) (rest := []) C0.1 (c_X7_countOpen l D K g_p0 p0_gapCount p0_targetCount p0_lookCount p0_time p0_gone p0_gaps p0_settings x3 r_2 hc_3 H.size) (va_cwS 2 hts gX7_darkAt_X7_countOpen rfl rfl rfl (by decide +kernel) ⟨Nat.le_of_ble_eq_true rfl, Nat.le_of_ble_eq_true rfl⟩) (xp_S C0.2 hP hD hS [0, 1, 2] rfl (by decide)) rfl rfl hl.1 rfl (lv_room (Nat.le_of_ble_eq_true rfl)) dX7_darkAt_16 ⟨Nat.le_of_ble_eq_true rfl, Nat.le_of_ble_eq_true rfl⟩) (fun H locs hP hD hS => ?_)
      refine lv_aload_n hx hb dX7_darkAt_19 rfl (lv_at hl 0 rfl) ?_
      refine va_get (D := D) (ci := 5) (v := .ref (g_p0 2)) (C := RX5) (T := TX5) (N := 13) hx hb hts iw_X7_darkAt_X5 hown hK hP 0 rfl rfl 1 (by decide) (hts _ fl_X7_darkAt_23) (fun _ h9 => h9) rfl dX7_darkAt_20 ?_
      refine lv_iconst (v := 4) hx hb dX7_darkAt_23 (by decide) ?_
      refine xl_i (f := p0_settings) hx hb hK hP 2 0 rfl rfl (k := 4) (by decide) (in_v (by decide)) dX7_darkAt_24 ?_
      refine lv_icmp_ge (tgt := 37) hx hb dX7_darkAt_25 (by decide) (fun c_4 => ?_) (fun c_4 => ?_)
      · have hF := it_pos c_4 hF
        refine lv_iinc (v := (x3 + (1 : Int32))) (lv' := [(3, .int (x3 + (1 : Int32))), (0, .ref (g_p0 0)), (2, .int x2)]) hx hb dX7_darkAt_37 hl (k := 2) rfl (congrArg (fun z => x3 + z) (by decide)) (by decide) rfl (fun ls hl => ?_)
        refine lv_goto (tgt := 4) hx hb dX7_darkAt_40 (by decide) ?_
        exact ih x2 (x3 + (1 : Int32)) H locs ls hP hD hS (lv_sub hl [1, 2, 0] rfl) hF
      · have hF := it_neg c_4 hF
        refine lv_iload_n hx hb dX7_darkAt_28 rfl (lv_at hl 1 rfl) ?_
        refine lv_if_ne (tgt := 34) hx hb dX7_darkAt_29 (by decide) (fun c_5 => ?_) (fun c_5 => ?_)
        · have hF := it_neg c_5 hF
          refine lv_iinc (v := (x2 + (-1 : Int32))) (lv' := [(2, .int (x2 + (-1 : Int32))), (0, .ref (g_p0 0)), (3, .int x3)]) hx hb dX7_darkAt_34 hl (k := 1) rfl (congrArg (fun z => x2 + z) (by decide)) (by decide) rfl (fun ls hl => ?_)
          refine lv_iinc (v := (x3 + (1 : Int32))) (lv' := [(3, .int (x3 + (1 : Int32))), (2, .int (x2 + (-1 : Int32))), (0, .ref (g_p0 0))]) hx hb dX7_darkAt_37 hl (k := 2) rfl (congrArg (fun z => x3 + z) (by decide)) (by decide) rfl (fun ls hl => ?_)
          refine lv_goto (tgt := 4) hx hb dX7_darkAt_40 (by decide) ?_
          exact ih (x2 + (-1 : Int32)) (x3 + (1 : Int32)) H locs ls hP hD hS (lv_sub hl [2, 1, 0] rfl) hF
        · have hF := it_pos c_5 hF
          refine lv_iload_n hx hb dX7_darkAt_32 rfl (lv_at hl 2 rfl) ?_
          obtain rfl := Option.some.inj hF
          exact HR 33 H locs ls dX7_darkAt_33 hP hD hS
def F_X7_darkAt (p0_gapCount : Int32) (p0_gaps : Nat → Int32) (p0_settings : Nat → Int32) (x1 : Int32) : Option (Int32) :=
  L_X7_darkAt_4 p0_gapCount p0_gaps p0_settings fu_ x1 (1 : Int32)
set_option maxHeartbeats 4000000 in
set_option maxRecDepth 100000 in
theorem c_X7_darkAt (l : Launch) (D : va_G) (K : Nat → ClassId) (g_p0 : Nat → Nat) (p0_gapCount : Int32) (p0_targetCount : Int32) (p0_lookCount : Int32) (p0_time : Int32) (p0_gone : Int32) (p0_gaps : Nat → Int32) (p0_settings : Nat → Int32) (x1 : Int32) (res : Int32) (hF : F_X7_darkAt p0_gapCount p0_gaps p0_settings x1 = some res) :
    Mi_ l yX7_darkAt wsX7_darkAt rmX7_darkAt D K [.ref (g_p0 0), .int x1] (w_X7_darkAt K g_p0 p0_gapCount p0_targetCount p0_lookCount p0_time p0_gone p0_gaps p0_settings) (w_X7_darkAt K g_p0 p0_gapCount p0_targetCount p0_lookCount p0_time p0_gone p0_gaps p0_settings) (res) := by
  refine en_i (cc := cX7_darkAt) (maxL := 4) (own := RX7) (by decide) rfl rfl (Nat.le_of_ble_eq_true rfl) ?_
  intro p e s m args below meth c A Q H locs ls C0 hP hD hS hl HR
  obtain ⟨⟨hx, hb, hml, hown, hts⟩, hK, -⟩ := id C0
  have hl : lv_has ls 4 [(0, .ref (g_p0 0)), (1, .int x1)] := hl
  unfold F_X7_darkAt at hF
  refine lv_iload_n hx hb dX7_darkAt_0 rfl (lv_at hl 1 rfl) ?_
  refine lv_istore_n (lv' := [(2, .int x1), (0, .ref (g_p0 0)), (1, .int x1)]) hx hb dX7_darkAt_1 rfl hl (by decide) rfl (fun ls hl => ?_)
  refine lv_iconst (v := 1) hx hb dX7_darkAt_2 (by decide) ?_
  refine lv_istore_n (lv' := [(3, .int (1 : Int32)), (2, .int x1), (0, .ref (g_p0 0)), (1, .int x1)]) hx hb dX7_darkAt_3 rfl hl (by decide) rfl (fun ls hl => ?_)
  exact w_X7_darkAt_4 C0 HR fu_ x1 (1 : Int32) H locs ls hP hD hS (lv_sub hl [2, 1, 0] rfl) hF

/-! StaggerRadar.dark(I)I -/
abbrev rmX10_dark : Room := { frames := 5, cells := 0, slots := 0, locals := 112 }
theorem fl_X10_dark_10 : Cond.fieldLink RX10 10 "StaggerRadar" "radar" "LStaggerRadar$Radar;" ∈ wsX10_dark := by decide +kernel
theorem iw_X10_dark_X10 : ∀ w ∈ u_ws RX10 TX10 14, w ∈ wsX10_dark := by decide +kernel
theorem iw_X10_dark_X5 : ∀ w ∈ u_ws RX5 TX5 13, w ∈ wsX10_dark := by decide +kernel
abbrev w_X10_dark (K : Nat → ClassId) (g_t : Nat → Nat) (g_t_radar : Nat → Nat) (g_t_draft : Nat → Nat) (g_t_text : Nat → Nat) (g_t_reader : Nat → Nat) (g_t_history : Nat → Nat) (g_t_echoes : Nat → Nat) (g_t_tracks : Nat → Nat) (g_t_dwelling : Nat → Nat) (g_t_chooser : Nat → Nat) (g_t_adviser : Nat → Nat) (t_radar_gapCount : Int32) (t_radar_targetCount : Int32) (t_radar_lookCount : Int32) (t_radar_time : Int32) (t_radar_gone : Int32) (t_radar_gaps : Nat → Int32) (t_radar_settings : Nat → Int32) : va_W := [((g_t 0), .inr (9, [.ref (g_t_radar 0), .ref (g_t_draft 0), .ref (g_t_text 0), .ref (g_t_reader 0), .ref (g_t_history 0), .ref (g_t 6), .ref (g_t 7), .ref (g_t 8), .ref (g_t_echoes 0), .ref (g_t_tracks 0), .ref (g_t_dwelling 0), .ref (g_t_chooser 0), .ref (g_t_adviser 0), .ref (g_t 14)])), ((g_t_radar 0), .inr (5, [.ref (g_t_radar 1), .ref (g_t_radar 2), .ref (g_t_radar 3), .ref (g_t_radar 4), .ref (g_t_radar 5), .ref (g_t_radar 6), .ref (g_t_radar 7), .ref (g_t_radar 8), .int t_radar_gapCount, .int t_radar_targetCount, .int t_radar_lookCount, .int t_radar_time, .int t_radar_gone])), ((g_t_radar 1), .inl (K 0, 5, .inl t_radar_gaps)), ((g_t_radar 2), .inl (K 0, 7, .inl t_radar_settings))]
def F_X10_dark (t_radar_gapCount : Int32) (t_radar_gaps : Nat → Int32) (t_radar_settings : Nat → Int32) (x1 : Int32) : Option (Int32) :=
  if x1 < (0 : Int32) then (some (-1 : Int32)) else ((F_X7_darkAt t_radar_gapCount t_radar_gaps t_radar_settings x1).bind fun r_2 => (some r_2))
set_option maxHeartbeats 4000000 in
set_option maxRecDepth 100000 in
theorem c_X10_dark (l : Launch) (D : va_G) (K : Nat → ClassId) (g_t : Nat → Nat) (g_t_radar : Nat → Nat) (g_t_draft : Nat → Nat) (g_t_text : Nat → Nat) (g_t_reader : Nat → Nat) (g_t_history : Nat → Nat) (g_t_echoes : Nat → Nat) (g_t_tracks : Nat → Nat) (g_t_dwelling : Nat → Nat) (g_t_chooser : Nat → Nat) (g_t_adviser : Nat → Nat) (t_radar_gapCount : Int32) (t_radar_targetCount : Int32) (t_radar_lookCount : Int32) (t_radar_time : Int32) (t_radar_gone : Int32) (t_radar_gaps : Nat → Int32) (t_radar_settings : Nat → Int32) (x1 : Int32) (res : Int32) (hF : F_X10_dark t_radar_gapCount t_radar_gaps t_radar_settings x1 = some res) :
    Mi_ l yX10_dark wsX10_dark rmX10_dark D K [.ref (g_t 0), .int x1] (w_X10_dark K g_t g_t_radar g_t_draft g_t_text g_t_reader g_t_history g_t_echoes g_t_tracks g_t_dwelling g_t_chooser g_t_adviser t_radar_gapCount t_radar_targetCount t_radar_lookCount t_radar_time t_radar_gone t_radar_gaps t_radar_settings) (w_X10_dark K g_t g_t_radar g_t_draft g_t_text g_t_reader g_t_history g_t_echoes g_t_tracks g_t_dwelling g_t_chooser g_t_adviser t_radar_gapCount t_radar_targetCount t_radar_lookCount t_radar_time t_radar_gone t_radar_gaps t_radar_settings) (res) := by
  refine en_i (cc := cX10_dark) (maxL := 2) (own := RX10) (by decide) rfl rfl (Nat.le_of_ble_eq_true rfl) ?_
  intro p e s m args below meth c A Q H locs ls C0 hP hD hS hl HR
  obtain ⟨⟨hx, hb, hml, hown, hts⟩, hK, -⟩ := id C0
  have hl : lv_has ls 2 [(0, .ref (g_t 0)), (1, .int x1)] := hl
  unfold F_X10_dark at hF
  refine lv_iload_n hx hb dX10_dark_0 rfl (lv_at hl 1 rfl) ?_
  refine lv_if_lt (tgt := 15) hx hb dX10_dark_1 (by decide) (fun c_1 => ?_) (fun c_1 => ?_)
  · have hF := it_pos c_1 hF
    refine lv_iconst (v := (-1)) hx hb dX10_dark_15 (by decide) ?_
    obtain rfl := Option.some.inj hF
    exact HR 16 H locs ls dX10_dark_16 hP hD hS
  · have hF := it_neg c_1 hF
    refine lv_aload_n hx hb dX10_dark_4 rfl (lv_at hl 0 rfl) ?_
    refine va_get (D := D) (ci := 9) (v := .ref (g_t_radar 0)) (C := RX10) (T := TX10) (N := 14) hx hb hts iw_X10_dark_X10 hown hK hP 0 rfl rfl 0 (by decide) (hts _ fl_X10_dark_10) (fun _ h9 => h9) rfl dX10_dark_5 ?_
    refine lv_iload_n hx hb dX10_dark_8 rfl (lv_at hl 1 rfl) ?_
    obtain ⟨r_2, hc_3, hF⟩ := bn_some hF
    refine xc_i (wn := (w_X10_dark K g_t g_t_radar g_t_draft g_t_text g_t_reader g_t_history g_t_echoes g_t_tracks g_t_dwelling g_t_chooser g_t_adviser t_radar_gapCount t_radar_targetCount t_radar_lookCount t_radar_time t_radar_gone t_radar_gaps t_radar_settings)) hP hD hS C0.2.2.1 [1, 2, 3] [0] [0, 1, 2, 3] rfl rfl (by decide) (by decide) rfl (by decide) (va_runS (As := [.ref (g_t_radar 0), .int x1]) (rest := []) C0.1 (c_X7_darkAt l D K g_t_radar t_radar_gapCount t_radar_targetCount t_radar_lookCount t_radar_time t_radar_gone t_radar_gaps t_radar_settings x1 r_2 hc_3 H.size) (va_cwS 2 hts gX10_dark_X7_darkAt rfl rfl rfl (by decide +kernel) ⟨Nat.le_of_ble_eq_true rfl, Nat.le_of_ble_eq_true rfl⟩) (xp_S C0.2 hP hD hS [1, 2, 3] rfl (by decide)) rfl rfl hl.1 rfl (lv_room (Nat.le_of_ble_eq_true rfl)) dX10_dark_9 ⟨Nat.le_of_ble_eq_true rfl, Nat.le_of_ble_eq_true rfl⟩) (fun H locs hP hD hS => ?_)
    refine lv_goto (tgt := 16) hx hb dX10_dark_12 (by decide) ?_
    obtain rfl := Option.some.inj hF
    exact HR 16 H locs ls dX10_dark_16 hP hD hS

/-! StaggerRadar.doppler(II)I -/
abbrev rmX10_doppler : Room := { frames := 2, cells := 0, slots := 0, locals := 42 }
theorem fl_X10_doppler_10 : Cond.fieldLink RX10 10 "StaggerRadar" "radar" "LStaggerRadar$Radar;" ∈ wsX10_doppler := by decide +kernel
theorem fl_X10_doppler_152 : Cond.fieldLink RX10 152 "StaggerRadar$Radar" "settings" "[I" ∈ wsX10_doppler := by decide +kernel
theorem fl_X10_doppler_238 : Cond.fieldLink RX10 238 "StaggerRadar$Radar" "gaps" "[I" ∈ wsX10_doppler := by decide +kernel
theorem iw_X10_doppler_X10 : ∀ w ∈ u_ws RX10 TX10 14, w ∈ wsX10_doppler := by decide +kernel
theorem iw_X10_doppler_X5 : ∀ w ∈ u_ws RX5 TX5 13, w ∈ wsX10_doppler := by decide +kernel
abbrev w_X10_doppler (K : Nat → ClassId) (g_t : Nat → Nat) (g_t_radar : Nat → Nat) (g_t_draft : Nat → Nat) (g_t_text : Nat → Nat) (g_t_reader : Nat → Nat) (g_t_history : Nat → Nat) (g_t_echoes : Nat → Nat) (g_t_tracks : Nat → Nat) (g_t_dwelling : Nat → Nat) (g_t_chooser : Nat → Nat) (g_t_adviser : Nat → Nat) (t_radar_gapCount : Int32) (t_radar_targetCount : Int32) (t_radar_lookCount : Int32) (t_radar_time : Int32) (t_radar_gone : Int32) (t_radar_gaps : Nat → Int32) (t_radar_settings : Nat → Int32) : va_W := [((g_t 0), .inr (9, [.ref (g_t_radar 0), .ref (g_t_draft 0), .ref (g_t_text 0), .ref (g_t_reader 0), .ref (g_t_history 0), .ref (g_t 6), .ref (g_t 7), .ref (g_t 8), .ref (g_t_echoes 0), .ref (g_t_tracks 0), .ref (g_t_dwelling 0), .ref (g_t_chooser 0), .ref (g_t_adviser 0), .ref (g_t 14)])), ((g_t_radar 0), .inr (5, [.ref (g_t_radar 1), .ref (g_t_radar 2), .ref (g_t_radar 3), .ref (g_t_radar 4), .ref (g_t_radar 5), .ref (g_t_radar 6), .ref (g_t_radar 7), .ref (g_t_radar 8), .int t_radar_gapCount, .int t_radar_targetCount, .int t_radar_lookCount, .int t_radar_time, .int t_radar_gone])), ((g_t_radar 1), .inl (K 0, 5, .inl t_radar_gaps)), ((g_t_radar 2), .inl (K 0, 7, .inl t_radar_settings))]
def F_X10_doppler (t_radar_gapCount : Int32) (t_radar_gaps : Nat → Int32) (t_radar_settings : Nat → Int32) (x1 : Int32) (x2 : Int32) : Option (Int32) :=
  (F_X10_isSpeed x1).bind fun r_1 => (if r_1 = (0 : Int32) then (some (-1 : Int32)) else ((F_X5_hasGap t_radar_gapCount x2).bind fun r_4 => (if r_4 = (0 : Int32) then (some (-1 : Int32)) else (gd_ (in_b x2 5) ((F_X10_rest (x1 * (t_radar_gaps (x2).toNatClampNeg)) (t_radar_settings 0)).bind fun r_8 => (some r_8))))))
set_option maxHeartbeats 4000000 in
set_option maxRecDepth 100000 in
theorem c_X10_doppler (l : Launch) (D : va_G) (K : Nat → ClassId) (g_t : Nat → Nat) (g_t_radar : Nat → Nat) (g_t_draft : Nat → Nat) (g_t_text : Nat → Nat) (g_t_reader : Nat → Nat) (g_t_history : Nat → Nat) (g_t_echoes : Nat → Nat) (g_t_tracks : Nat → Nat) (g_t_dwelling : Nat → Nat) (g_t_chooser : Nat → Nat) (g_t_adviser : Nat → Nat) (t_radar_gapCount : Int32) (t_radar_targetCount : Int32) (t_radar_lookCount : Int32) (t_radar_time : Int32) (t_radar_gone : Int32) (t_radar_gaps : Nat → Int32) (t_radar_settings : Nat → Int32) (x1 : Int32) (x2 : Int32) (res : Int32) (hF : F_X10_doppler t_radar_gapCount t_radar_gaps t_radar_settings x1 x2 = some res) :
    Mi_ l yX10_doppler wsX10_doppler rmX10_doppler D K [.ref (g_t 0), .int x1, .int x2] (w_X10_doppler K g_t g_t_radar g_t_draft g_t_text g_t_reader g_t_history g_t_echoes g_t_tracks g_t_dwelling g_t_chooser g_t_adviser t_radar_gapCount t_radar_targetCount t_radar_lookCount t_radar_time t_radar_gone t_radar_gaps t_radar_settings) (w_X10_doppler K g_t g_t_radar g_t_draft g_t_text g_t_reader g_t_history g_t_echoes g_t_tracks g_t_dwelling g_t_chooser g_t_adviser t_radar_gapCount t_radar_targetCount t_radar_lookCount t_radar_time t_radar_gone t_radar_gaps t_radar_settings) (res) := by
  refine en_i (cc := cX10_doppler) (maxL := 3) (own := RX10) (by decide) rfl rfl (Nat.le_of_ble_eq_true rfl) ?_
  intro p e s m args below meth c A Q H locs ls C0 hP hD hS hl HR
  obtain ⟨⟨hx, hb, hml, hown, hts⟩, hK, -⟩ := id C0
  have hl : lv_has ls 3 [(0, .ref (g_t 0)), (1, .int x1), (2, .int x2)] := hl
  unfold F_X10_doppler at hF
  refine lv_iload_n hx hb dX10_doppler_0 rfl (lv_at hl 1 rfl) ?_
  obtain ⟨r_1, hc_2, hF⟩ := bn_some hF
  refine xc_i (wn := (w_X10_doppler K g_t g_t_radar g_t_draft g_t_text g_t_reader g_t_history g_t_echoes g_t_tracks g_t_dwelling g_t_chooser g_t_adviser t_radar_gapCount t_radar_targetCount t_radar_lookCount t_radar_time t_radar_gone t_radar_gaps t_radar_settings)) hP hD hS C0.2.2.1 [] [0, 1, 2, 3] [0, 1, 2, 3] rfl rfl (by decide) (by decide) rfl (by decide) (va_runS (As := [.int x1]) (rest := []) C0.1 (c_X10_isSpeed l D K x1 r_1 hc_2 H.size) (va_cwS 1 hts gX10_doppler_X10_isSpeed rfl rfl rfl (by decide +kernel) ⟨Nat.le_of_ble_eq_true rfl, Nat.le_of_ble_eq_true rfl⟩) (xp_S C0.2 hP hD hS [] rfl (by decide)) rfl rfl hl.1 rfl (lv_room (Nat.le_of_ble_eq_true rfl)) dX10_doppler_1 ⟨Nat.le_of_ble_eq_true rfl, Nat.le_of_ble_eq_true rfl⟩) (fun H locs hP hD hS => ?_)
  refine lv_if_eq (tgt := 44) hx hb dX10_doppler_4 (by decide) (fun c_3 => ?_) (fun c_3 => ?_)
  · have hF := it_pos c_3 hF
    refine lv_iconst (v := (-1)) hx hb dX10_doppler_44 (by decide) ?_
    obtain rfl := Option.some.inj hF
    exact HR 45 H locs ls dX10_doppler_45 hP hD hS
  · have hF := it_neg c_3 hF
    refine lv_aload_n hx hb dX10_doppler_7 rfl (lv_at hl 0 rfl) ?_
    refine va_get (D := D) (ci := 9) (v := .ref (g_t_radar 0)) (C := RX10) (T := TX10) (N := 14) hx hb hts iw_X10_doppler_X10 hown hK hP 0 rfl rfl 0 (by decide) (hts _ fl_X10_doppler_10) (fun _ h9 => h9) rfl dX10_doppler_8 ?_
    refine lv_iload_n hx hb dX10_doppler_11 rfl (lv_at hl 2 rfl) ?_
    obtain ⟨r_4, hc_5, hF⟩ := bn_some hF
    refine xc_i (wn := (w_X10_doppler K g_t g_t_radar g_t_draft g_t_text g_t_reader g_t_history g_t_echoes g_t_tracks g_t_dwelling g_t_chooser g_t_adviser t_radar_gapCount t_radar_targetCount t_radar_lookCount t_radar_time t_radar_gone t_radar_gaps t_radar_settings)) hP hD hS C0.2.2.1 [1] [0, 2, 3] [0, 3, 1, 2] rfl rfl (by decide) (by decide) rfl (by decide) (va_runV (As := [.int x2]) (rest := []) C0.1 (c_X5_hasGap l D K g_t_radar t_radar_gapCount t_radar_targetCount t_radar_lookCount t_radar_time t_radar_gone x2 r_4 hc_5 H.size) (cwV 1 hts gX10_doppler_X5_hasGap rfl rfl rfl (by decide +kernel) ⟨Nat.le_of_ble_eq_true rfl, Nat.le_of_ble_eq_true rfl⟩) (xp_V C0.2 hP hD hS [1] rfl (by decide) 5 0 rfl rfl rfl) rfl rfl hl.1 rfl (lv_room (Nat.le_of_ble_eq_true rfl)) dX10_doppler_12 ⟨Nat.le_of_ble_eq_true rfl, Nat.le_of_ble_eq_true rfl⟩) (fun H locs hP hD hS => ?_)
    refine lv_if_eq (tgt := 44) hx hb dX10_doppler_15 (by decide) (fun c_6 => ?_) (fun c_6 => ?_)
    · have hF := it_pos c_6 hF
      refine lv_iconst (v := (-1)) hx hb dX10_doppler_44 (by decide) ?_
      obtain rfl := Option.some.inj hF
      exact HR 45 H locs ls dX10_doppler_45 hP hD hS
    · have hF := it_neg c_6 hF
      refine lv_iload_n hx hb dX10_doppler_18 rfl (lv_at hl 1 rfl) ?_
      refine lv_aload_n hx hb dX10_doppler_19 rfl (lv_at hl 0 rfl) ?_
      refine va_get (D := D) (ci := 9) (v := .ref (g_t_radar 0)) (C := RX10) (T := TX10) (N := 14) hx hb hts iw_X10_doppler_X10 hown hK hP 0 rfl rfl 0 (by decide) (hts _ fl_X10_doppler_10) (fun _ h9 => h9) rfl dX10_doppler_20 ?_
      refine va_get (D := D) (ci := 5) (v := .ref (g_t_radar 1)) (C := RX5) (T := TX5) (N := 13) hx hb hts iw_X10_doppler_X5 hown hK hP 1 rfl rfl 0 (by decide) (hts _ fl_X10_doppler_238) (fun _ h9 => h9) rfl dX10_doppler_23 ?_
      refine lv_iload_n hx hb dX10_doppler_26 rfl (lv_at hl 2 rfl) ?_
      obtain ⟨hg_7, hF⟩ := gd_some hF
      refine xl_i (f := t_radar_gaps) hx hb hK hP 2 0 rfl rfl rfl (in_v hg_7) dX10_doppler_27 ?_
      refine lv_imul hx hb dX10_doppler_28 ?_
      refine lv_aload_n hx hb dX10_doppler_29 rfl (lv_at hl 0 rfl) ?_
      refine va_get (D := D) (ci := 9) (v := .ref (g_t_radar 0)) (C := RX10) (T := TX10) (N := 14) hx hb hts iw_X10_doppler_X10 hown hK hP 0 rfl rfl 0 (by decide) (hts _ fl_X10_doppler_10) (fun _ h9 => h9) rfl dX10_doppler_30 ?_
      refine va_get (D := D) (ci := 5) (v := .ref (g_t_radar 2)) (C := RX5) (T := TX5) (N := 13) hx hb hts iw_X10_doppler_X5 hown hK hP 1 rfl rfl 1 (by decide) (hts _ fl_X10_doppler_152) (fun _ h9 => h9) rfl dX10_doppler_33 ?_
      refine lv_iconst (v := 0) hx hb dX10_doppler_36 (by decide) ?_
      refine xl_i (f := t_radar_settings) hx hb hK hP 3 0 rfl rfl (k := 0) (by decide) (in_v (by decide)) dX10_doppler_37 ?_
      obtain ⟨r_8, hc_9, hF⟩ := bn_some hF
      refine xc_i (wn := (w_X10_doppler K g_t g_t_radar g_t_draft g_t_text g_t_reader g_t_history g_t_echoes g_t_tracks g_t_dwelling g_t_chooser g_t_adviser t_radar_gapCount t_radar_targetCount t_radar_lookCount t_radar_time t_radar_gone t_radar_gaps t_radar_settings)) hP hD hS C0.2.2.1 [] [0, 1, 2, 3] [0, 1, 2, 3] rfl rfl (by decide) (by decide) rfl (by decide) (va_runS (As := [.int (x1 * (t_radar_gaps (x2).toNatClampNeg)), .int (t_radar_settings 0)]) (rest := []) C0.1 (c_X10_rest l D K (x1 * (t_radar_gaps (x2).toNatClampNeg)) (t_radar_settings 0) r_8 hc_9 H.size) (va_cwS 2 hts gX10_doppler_X10_rest rfl rfl rfl (by decide +kernel) ⟨Nat.le_of_ble_eq_true rfl, Nat.le_of_ble_eq_true rfl⟩) (xp_S C0.2 hP hD hS [] rfl (by decide)) rfl rfl hl.1 rfl (lv_room (Nat.le_of_ble_eq_true rfl)) dX10_doppler_38 ⟨Nat.le_of_ble_eq_true rfl, Nat.le_of_ble_eq_true rfl⟩) (fun H locs hP hD hS => ?_)
      refine lv_goto (tgt := 45) hx hb dX10_doppler_41 (by decide) ?_
      obtain rfl := Option.some.inj hF
      exact HR 45 H locs ls dX10_doppler_45 hP hD hS
