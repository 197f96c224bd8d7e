/-! StaggerRadar.Radar.isRange(I)Z -/
abbrev rmX5_isRange : Room := { frames := 1, cells := 0, slots := 0, locals := 21 }
theorem fl_X5_isRange_49 : Cond.fieldLink RX5 49 "StaggerRadar$Radar" "targetCount" "I" ∈ wsX5_isRange := by decide +kernel
theorem iw_X5_isRange_X5 : ∀ w ∈ u_ws RX5 TX5 13, w ∈ wsX5_isRange := by decide +kernel
abbrev w_X5_isRange (K : Nat → ClassId) (g_t : Nat → Nat) (t_gapCount : Int32) (t_targetCount : Int32) (t_lookCount : Int32) (t_time : Int32) (t_gone : Int32) (t_spots : Nat → Int32) : va_W := [((g_t 0), .inr (5, [.ref (g_t 1), .ref (g_t 2), .ref (g_t 3), .ref (g_t 4), .ref (g_t 5), .ref (g_t 6), .ref (g_t 7), .ref (g_t 8), .int t_gapCount, .int t_targetCount, .int t_lookCount, .int t_time, .int t_gone])), ((g_t 3), .inl (K 0, 8, .inl t_spots))]
def L_X5_isRange_2 (t_targetCount : Int32) (t_spots : Nat → Int32) : Nat → Int32 → Int32 → Option (Int32)
  | 0, _, _ => none
  | n_ + 1, x1, x2 =>
    if t_targetCount ≤ x2 then (some (0 : Int32)) else ((F_X5_rangeOf t_spots x2).bind fun r_2 => (if r_2 = x1 then (some (1 : Int32)) else (L_X5_isRange_2 t_targetCount t_spots n_ x1 (x2 + (1 : Int32)))))
set_option maxHeartbeats 4000000 in
set_option maxRecDepth 100000 in
theorem w_X5_isRange_2 {p : Program} {l : Launch} {e : Env} {s : State} {m : MethodId} {args : Array Value} {below : List Frame} {meth : Method} {c : Code} {D : va_G} {K : Nat → ClassId} {A : Nat → Prop} {Q : State → Prop} (C0 : cx_ p s m args c cX5_isRange 3 RX5 wsX5_isRange D K A) {g_t : Nat → Nat} {t_gapCount : Int32} {t_targetCount : Int32} {t_lookCount : Int32} {t_time : Int32} {t_gone : Int32} {t_spots : Nat → Int32} {res : Int32} (HR : ∀ (pc : Nat) (H : Heap) (locs : List Loc) (ls : Array Slot), decode cX5_isRange pc = .ok (.ireturn, 1) → narrow .boolean (.int res) = .int res → va_P D vwCl (w_X5_isRange K g_t t_gapCount t_targetCount t_lookCount t_time t_gone t_spots) H → va_D A (w_X5_isRange K g_t t_gapCount t_targetCount t_lookCount t_time t_gone t_spots) → va_S A s.heap H locs → W p l e rmX5_isRange s m args below meth c H locs 0 0 Q (F0 m pc ls [.int res]))  :
    ∀ (n_ : Nat) (x1 : Int32) (x2 : Int32) (H : Heap) (locs : List Loc) (ls : Array Slot), va_P D vwCl (w_X5_isRange K g_t t_gapCount t_targetCount t_lookCount t_time t_gone t_spots) H → va_D A (w_X5_isRange K g_t t_gapCount t_targetCount t_lookCount t_time t_gone t_spots) → va_S A s.heap H locs → lv_has ls 3 [(0, .ref (g_t 0)), (1, .int x1), (2, .int x2)] → L_X5_isRange_2 t_targetCount t_spots n_ x1 x2 = some res → W p l e rmX5_isRange s m args below meth c H locs 0 0 Q (F0 m 2 ls []) := by
  obtain ⟨⟨hx, hb, hml, hown, hts⟩, hK, -⟩ := id C0
  intro n_
  induction n_ with
  | zero =>
    intro x1 x2 H locs ls hP hD hS hl hF
    exact no_s (show (none : Option (Int32)) = some res from hF)
  | succ n_ ih =>
    intro x1 x2 H locs ls hP hD hS hl hF
    rw [L_X5_isRange_2] at hF
    refine lv_iload_n hx hb dX5_isRange_2 rfl (lv_at hl 2 rfl) ?_
    refine lv_aload_n hx hb dX5_isRange_3 rfl (lv_at hl 0 rfl) ?_
    refine va_get (D := D) (ci := 5) (v := .int t_targetCount) (C := RX5) (T := TX5) (N := 13) hx hb hts iw_X5_isRange_X5 hown hK hP 0 rfl rfl 9 (by decide) (hts _ fl_X5_isRange_49) (fun _ h9 => h9) rfl dX5_isRange_4 ?_
    refine lv_icmp_ge (tgt := 27) hx hb dX5_isRange_7 (by decide) (fun c_1 => ?_) (fun c_1 => ?_)
    · have hF := it_pos c_1 hF
      refine lv_iconst (v := 0) hx hb dX5_isRange_27 (by decide) ?_
      obtain rfl := Option.some.inj hF
      exact HR 28 H locs ls dX5_isRange_28 narrow_b0 hP hD hS
    · have hF := it_neg c_1 hF
      refine lv_aload_n hx hb dX5_isRange_10 rfl (lv_at hl 0 rfl) ?_
      refine lv_iload_n hx hb dX5_isRange_11 rfl (lv_at hl 2 rfl) ?_
      obtain ⟨r_2, hc_3, hF⟩ := bn_some hF
      refine xc_i (wn := (w_X5_isRange K g_t t_gapCount t_targetCount t_lookCount t_time t_gone t_spots)) hP hD hS C0.2.2.1 [0, 1] [] [0, 1] rfl rfl (by decide) (by decide) rfl (by decide) (va_runV (As := [.int x2]) (rest := []) C0.1 (c_X5_rangeOf l D K g_t t_gapCount t_targetCount t_lookCount t_time t_gone t_spots x2 r_2 hc_3 H.size) (cwV 1 hts gX5_isRange_X5_rangeOf rfl rfl rfl (by decide +kernel) ⟨Nat.le_of_ble_eq_true rfl, Nat.le_of_ble_eq_true rfl⟩) (xp_V C0.2 hP hD hS [0, 1] rfl (by decide) 5 0 rfl rfl rfl) rfl rfl hl.1 rfl (lv_room (Nat.le_of_ble_eq_true rfl)) dX5_isRange_12 ⟨Nat.le_of_ble_eq_true rfl, Nat.le_of_ble_eq_true rfl⟩) (fun H locs hP hD hS => ?_)
      refine lv_iload_n hx hb dX5_isRange_15 rfl (lv_at hl 1 rfl) ?_
      refine lv_icmp_ne (tgt := 21) hx hb dX5_isRange_16 (by decide) (fun c_4 => ?_) (fun c_4 => ?_)
      · have hF := it_neg c_4 hF
        refine lv_iinc (v := (x2 + (1 : Int32))) (lv' := [(2, .int (x2 + (1 : Int32))), (0, .ref (g_t 0)), (1, .int x1)]) hx hb dX5_isRange_21 hl (k := 2) rfl (congrArg (fun z => x2 + z) (by decide)) (by decide) rfl (fun ls hl => ?_)
        refine lv_goto (tgt := 2) hx hb dX5_isRange_24 (by decide) ?_
        exact ih x1 (x2 + (1 : Int32)) H locs ls hP hD hS (lv_sub hl [1, 2, 0] rfl) hF
      · have hF := it_pos c_4 hF
        refine lv_iconst (v := 1) hx hb dX5_isRange_19 (by decide) ?_
        obtain rfl := Option.some.inj hF
        exact HR 20 H locs ls dX5_isRange_20 narrow_b1 hP hD hS
def F_X5_isRange (t_targetCount : Int32) (t_spots : Nat → Int32) (x1 : Int32) : Option (Int32) :=
  L_X5_isRange_2 t_targetCount t_spots fu_ x1 (0 : Int32)
set_option maxHeartbeats 4000000 in
set_option maxRecDepth 100000 in
theorem c_X5_isRange (l : Launch) (D : va_G) (K : Nat → ClassId) (g_t : Nat → Nat) (t_gapCount : Int32) (t_targetCount : Int32) (t_lookCount : Int32) (t_time : Int32) (t_gone : Int32) (t_spots : Nat → Int32) (x1 : Int32) (res : Int32) (hF : F_X5_isRange t_targetCount t_spots x1 = some res) :
    Mi_ l yX5_isRange wsX5_isRange rmX5_isRange D K [.ref (g_t 0), .int x1] (w_X5_isRange K g_t t_gapCount t_targetCount t_lookCount t_time t_gone t_spots) (w_X5_isRange K g_t t_gapCount t_targetCount t_lookCount t_time t_gone t_spots) (res) := by
  refine en_z (cc := cX5_isRange) (maxL := 3) (own := RX5) (by decide) rfl rfl (Nat.le_of_ble_eq_true rfl) ?_
  intro p e s m args below meth c A Q H locs ls C0 hP hD hS hl HR
  obtain ⟨⟨hx, hb, hml, hown, hts⟩, hK, -⟩ := id C0
  have hl : lv_has ls 3 [(0, .ref (g_t 0)), (1, .int x1)] := hl
  unfold F_X5_isRange at hF
  refine lv_iconst (v := 0) hx hb dX5_isRange_0 (by decide) ?_
  refine lv_istore_n (lv' := [(2, .int (0 : Int32)), (0, .ref (g_t 0)), (1, .int x1)]) hx hb dX5_isRange_1 rfl hl (by decide) rfl (fun ls hl => ?_)
  exact w_X5_isRange_2 C0 HR fu_ x1 (0 : Int32) H locs ls hP hD hS (lv_sub hl [1, 2, 0] rfl) hF

/-! StaggerRadar.Echoes.isNearGhost(LStaggerRadar$Radar;I)Z -/
abbrev rmX3_isNearGhost : Room := { frames := 2, cells := 0, slots := 0, locals := 43 }
theorem fl_X3_isNearGhost_18 : Cond.fieldLink RX3 18 "StaggerRadar$Echoes" "hitBits" "[I" ∈ wsX3_isNearGhost := by decide +kernel
theorem fl_X3_isNearGhost_66 : Cond.fieldLink RX3 66 "StaggerRadar$Radar" "settings" "[I" ∈ wsX3_isNearGhost := by decide +kernel
theorem iw_X3_isNearGhost_X3 : ∀ w ∈ u_ws RX3 TX3 6, w ∈ wsX3_isNearGhost := by decide +kernel
theorem iw_X3_isNearGhost_X5 : ∀ w ∈ u_ws RX5 TX5 13, w ∈ wsX3_isNearGhost := by decide +kernel
abbrev w_X3_isNearGhost (K : Nat → ClassId) (g_t : Nat → Nat) (g_p1 : Nat → Nat) (t_shownCount : Int32) (t_hitBits : Nat → Int32) (p1_gapCount : Int32) (p1_targetCount : Int32) (p1_lookCount : Int32) (p1_time : Int32) (p1_gone : Int32) (p1_settings : Nat → Int32) (p1_spots : Nat → Int32) : va_W := [((g_t 0), .inr (3, [.ref (g_t 1), .ref (g_t 2), .ref (g_t 3), .ref (g_t 4), .ref (g_t 5), .int t_shownCount])), ((g_t 3), .inl (K 0, 1000, .inl t_hitBits)), ((g_p1 0), .inr (5, [.ref (g_p1 1), .ref (g_p1 2), .ref (g_p1 3), .ref (g_p1 4), .ref (g_p1 5), .ref (g_p1 6), .ref (g_p1 7), .ref (g_p1 8), .int p1_gapCount, .int p1_targetCount, .int p1_lookCount, .int p1_time, .int p1_gone])), ((g_p1 2), .inl (K 0, 7, .inl p1_settings)), ((g_p1 3), .inl (K 0, 8, .inl p1_spots))]
def F_X3_isNearGhost (t_hitBits : Nat → Int32) (p1_targetCount : Int32) (p1_settings : Nat → Int32) (p1_spots : Nat → Int32) (x2 : Int32) : Option (Int32) :=
  gd_ (in_b x2 1000) ((F_J6_bitCount_0f7a4 (t_hitBits (x2).toNatClampNeg)).bind fun r_2 => (if (r_2 + (1 : Int32)) = (p1_settings 4) then ((F_X5_isRange p1_targetCount p1_spots x2).bind fun r_5 => (if r_5 = (0 : Int32) then (some (1 : Int32)) else (some (0 : Int32)))) else (some (0 : Int32))))
set_option maxHeartbeats 4000000 in
set_option maxRecDepth 100000 in
theorem c_X3_isNearGhost (l : Launch) (D : va_G) (K : Nat → ClassId) (g_t : Nat → Nat) (g_p1 : Nat → Nat) (t_shownCount : Int32) (t_hitBits : Nat → Int32) (p1_gapCount : Int32) (p1_targetCount : Int32) (p1_lookCount : Int32) (p1_time : Int32) (p1_gone : Int32) (p1_settings : Nat → Int32) (p1_spots : Nat → Int32) (x2 : Int32) (res : Int32) (hF : F_X3_isNearGhost t_hitBits p1_targetCount p1_settings p1_spots x2 = some res) :
    Mi_ l yX3_isNearGhost wsX3_isNearGhost rmX3_isNearGhost D K [.ref (g_t 0), .ref (g_p1 0), .int x2] (w_X3_isNearGhost K g_t g_p1 t_shownCount t_hitBits p1_gapCount p1_targetCount p1_lookCount p1_time p1_gone p1_settings p1_spots) (w_X3_isNearGhost K g_t g_p1 t_shownCount t_hitBits p1_gapCount p1_targetCount p1_lookCount p1_time p1_gone p1_settings p1_spots) (res) := by
  refine en_z (cc := cX3_isNearGhost) (maxL := 3) (own := RX3) (by decide) rfl rfl (Nat.le_of_ble_eq_true rfl) ?_
  intro p e s m args below meth c A Q H locs ls C0 hP hD hS hl HR
  obtain ⟨⟨hx, hb, hml, hown, hts⟩, hK, -⟩ := id C0
  have hl : lv_has ls 3 [(0, .ref (g_t 0)), (1, .ref (g_p1 0)), (2, .int x2)] := hl
  unfold F_X3_isNearGhost at hF
  refine lv_aload_n hx hb dX3_isNearGhost_0 rfl (lv_at hl 0 rfl) ?_
  refine va_get (D := D) (ci := 3) (v := .ref (g_t 3)) (C := RX3) (T := TX3) (N := 6) hx hb hts iw_X3_isNearGhost_X3 hown hK hP 0 rfl rfl 2 (by decide) (hts _ fl_X3_isNearGhost_18) (fun _ h9 => h9) rfl dX3_isNearGhost_1 ?_
  refine lv_iload_n hx hb dX3_isNearGhost_4 rfl (lv_at hl 2 rfl) ?_
  obtain ⟨hg_1, hF⟩ := gd_some hF
  refine xl_i (f := t_hitBits) hx hb hK hP 1 0 rfl rfl rfl (in_v hg_1) dX3_isNearGhost_5 ?_
  obtain ⟨r_2, hc_3, hF⟩ := bn_some hF
  refine xc_i (wn := (w_X3_isNearGhost K g_t g_p1 t_shownCount t_hitBits p1_gapCount p1_targetCount p1_lookCount p1_time p1_gone p1_settings p1_spots)) hP hD hS C0.2.2.1 [] [0, 1, 2, 3, 4] [0, 1, 2, 3, 4] rfl rfl (by decide) (by decide) rfl (by decide) (va_runS (As := [.int (t_hitBits (x2).toNatClampNeg)]) (rest := []) C0.1 (c_J6_bitCount_0f7a4 l D K (t_hitBits (x2).toNatClampNeg) r_2 hc_3 H.size) (va_cwS 1 hts gX3_isNearGhost_J6_bitCount_0f7a4 rfl rfl rfl (by decide +kernel) ⟨Nat.le_of_ble_eq_true rfl, Nat.le_of_ble_eq_true rfl⟩) (xp_S C0.2 hP hD hS [] rfl (by decide)) rfl rfl hl.1 rfl (lv_room (Nat.le_of_ble_eq_true rfl)) dX3_isNearGhost_6 ⟨Nat.le_of_ble_eq_true rfl, Nat.le_of_ble_eq_true rfl⟩) (fun H locs hP hD hS => ?_)
  refine lv_iconst (v := 1) hx hb dX3_isNearGhost_9 (by decide) ?_
  refine lv_iadd hx hb dX3_isNearGhost_10 ?_
  refine lv_aload_n hx hb dX3_isNearGhost_11 rfl (lv_at hl 1 rfl) ?_
  refine va_get (D := D) (ci := 5) (v := .ref (g_p1 2)) (C := RX5) (T := TX5) (N := 13) hx hb hts iw_X3_isNearGhost_X5 hown hK hP 2 rfl rfl 1 (by decide) (hts _ fl_X3_isNearGhost_66) (fun _ h9 => h9) rfl dX3_isNearGhost_12 ?_
  refine lv_iconst (v := 4) hx hb dX3_isNearGhost_15 (by decide) ?_
  refine xl_i (f := p1_settings) hx hb hK hP 3 0 rfl rfl (k := 4) (by decide) (in_v (by decide)) dX3_isNearGhost_16 ?_
  refine lv_icmp_ne (tgt := 32) hx hb dX3_isNearGhost_17 (by decide) (fun c_4 => ?_) (fun c_4 => ?_)
  · have hF := it_neg c_4 hF
    refine lv_iconst (v := 0) hx hb dX3_isNearGhost_32 (by decide) ?_
    obtain rfl := Option.some.inj hF
    exact HR 33 H locs ls dX3_isNearGhost_33 narrow_b0 hP hD hS
  · have hF := it_pos c_4 hF
    refine lv_aload_n hx hb dX3_isNearGhost_20 rfl (lv_at hl 1 rfl) ?_
    refine lv_iload_n hx hb dX3_isNearGhost_21 rfl (lv_at hl 2 rfl) ?_
    obtain ⟨r_5, hc_6, hF⟩ := bn_some hF
    refine xc_i (wn := (w_X3_isNearGhost K g_t g_p1 t_shownCount t_hitBits p1_gapCount p1_targetCount p1_lookCount p1_time p1_gone p1_settings p1_spots)) hP hD hS C0.2.2.1 [2, 4] [0, 1, 3] [0, 1, 3, 2, 4] rfl rfl (by decide) (by decide) rfl (by decide) (va_runV (As := [.int x2]) (rest := []) C0.1 (c_X5_isRange l D K g_p1 p1_gapCount p1_targetCount p1_lookCount p1_time p1_gone p1_spots x2 r_5 hc_6 H.size) (cwV 1 hts gX3_isNearGhost_X5_isRange rfl rfl rfl (by decide +kernel) ⟨Nat.le_of_ble_eq_true rfl, Nat.le_of_ble_eq_true rfl⟩) (xp_V C0.2 hP hD hS [2, 4] rfl (by decide) 5 0 rfl rfl rfl) rfl rfl hl.1 rfl (lv_room (Nat.le_of_ble_eq_true rfl)) dX3_isNearGhost_22 ⟨Nat.le_of_ble_eq_true rfl, Nat.le_of_ble_eq_true rfl⟩) (fun H locs hP hD hS => ?_)
    refine lv_if_ne (tgt := 32) hx hb dX3_isNearGhost_25 (by decide) (fun c_7 => ?_) (fun c_7 => ?_)
    · have hF := it_neg c_7 hF
      refine lv_iconst (v := 0) hx hb dX3_isNearGhost_32 (by decide) ?_
      obtain rfl := Option.some.inj hF
      exact HR 33 H locs ls dX3_isNearGhost_33 narrow_b0 hP hD hS
    · have hF := it_pos c_7 hF
      refine lv_iconst (v := 1) hx hb dX3_isNearGhost_28 (by decide) ?_
      refine lv_goto (tgt := 33) hx hb dX3_isNearGhost_29 (by decide) ?_
      obtain rfl := Option.some.inj hF
      exact HR 33 H locs ls dX3_isNearGhost_33 narrow_b1 hP hD hS

/-! StaggerRadar.Echoes.countFurtherGhosts(LStaggerRadar$Radar;I)I -/
abbrev rmX3_countFurtherGhosts : Room := { frames := 3, cells := 0, slots := 0, locals := 65 }
theorem fl_X3_countFurtherGhosts_27 : Cond.fieldLink RX3 27 "StaggerRadar$Radar" "gapCount" "I" ∈ wsX3_countFurtherGhosts := by decide +kernel
theorem fl_X3_countFurtherGhosts_66 : Cond.fieldLink RX3 66 "StaggerRadar$Radar" "settings" "[I" ∈ wsX3_countFurtherGhosts := by decide +kernel
theorem iw_X3_countFurtherGhosts_X3 : ∀ w ∈ u_ws RX3 TX3 6, w ∈ wsX3_countFurtherGhosts := by decide +kernel
theorem iw_X3_countFurtherGhosts_X5 : ∀ w ∈ u_ws RX5 TX5 13, w ∈ wsX3_countFurtherGhosts := by decide +kernel
abbrev w_X3_countFurtherGhosts (K : Nat → ClassId) (g_t : Nat → Nat) (g_p1 : Nat → Nat) (t_shownCount : Int32) (t_loud : Nat → Int32) (t_hitBits : Nat → Int32) (p1_gapCount : Int32) (p1_targetCount : Int32) (p1_lookCount : Int32) (p1_time : Int32) (p1_gone : Int32) (p1_settings : Nat → Int32) (p1_spots : Nat → Int32) : va_W := [((g_t 0), .inr (3, [.ref (g_t 1), .ref (g_t 2), .ref (g_t 3), .ref (g_t 4), .ref (g_t 5), .int t_shownCount])), ((g_t 2), .inl (K 0, 300, .inl t_loud)), ((g_t 3), .inl (K 0, 1000, .inl t_hitBits)), ((g_p1 0), .inr (5, [.ref (g_p1 1), .ref (g_p1 2), .ref (g_p1 3), .ref (g_p1 4), .ref (g_p1 5), .ref (g_p1 6), .ref (g_p1 7), .ref (g_p1 8), .int p1_gapCount, .int p1_targetCount, .int p1_lookCount, .int p1_time, .int p1_gone])), ((g_p1 2), .inl (K 0, 7, .inl p1_settings)), ((g_p1 3), .inl (K 0, 8, .inl p1_spots))]
def L_X3_countFurtherGhosts_39 (t_loud : Nat → Int32) (t_hitBits : Nat → Int32) (p1_gapCount : Int32) (p1_targetCount : Int32) (p1_settings : Nat → Int32) (p1_spots : Nat → Int32) (k_18 : Int32 → Int32 → Int32 → Int32 → Int32 → Option (Int32)) : Nat → Int32 → Int32 → Int32 → Int32 → Int32 → Int32 → Option (Int32)
  | 0, _, _, _, _, _, _ => none
  | n_ + 1, x2, x3, x4, x5, x6, x7 =>
    if (p1_settings 3) ≤ x7 then (k_18 x2 x3 x4 x5 (x6 + (1 : Int32))) else ((F_X3_isNearGhost t_hitBits p1_targetCount p1_settings p1_spots x7).bind fun r_2 => (if r_2 = (0 : Int32) then (L_X3_countFurtherGhosts_39 t_loud t_hitBits p1_gapCount p1_targetCount p1_settings p1_spots k_18 n_ x2 x3 x4 x5 x6 (x7 + x4)) else (L_X3_countFurtherGhosts_39 t_loud t_hitBits p1_gapCount p1_targetCount p1_settings p1_spots k_18 n_ x2 x3 x4 (x5 + (1 : Int32)) x6 (x7 + x4))))
set_option maxHeartbeats 4000000 in
set_option maxRecDepth 100000 in
theorem w_X3_countFurtherGhosts_39 {p : Program} {l : Launch} {e : Env} {s : State} {m : MethodId} {args : Array Value} {below : List Frame} {meth : Method} {c : Code} {D : va_G} {K : Nat → ClassId} {A : Nat → Prop} {Q : State → Prop} (C0 : cx_ p s m args c cX3_countFurtherGhosts 8 RX3 wsX3_countFurtherGhosts D K A) {g_t : Nat → Nat} {g_p1 : Nat → Nat} {t_shownCount : Int32} {t_loud : Nat → Int32} {t_hitBits : Nat → Int32} {p1_gapCount : Int32} {p1_targetCount : Int32} {p1_lookCount : Int32} {p1_time : Int32} {p1_gone : Int32} {p1_settings : Nat → Int32} {p1_spots : Nat → Int32} {res : Int32} (HR : ∀ (pc : Nat) (H : Heap) (locs : List Loc) (ls : Array Slot), decode cX3_countFurtherGhosts pc = .ok (.ireturn, 1) → va_P D vwCl (w_X3_countFurtherGhosts K g_t g_p1 t_shownCount t_loud t_hitBits p1_gapCount p1_targetCount p1_lookCount p1_time p1_gone p1_settings p1_spots) H → va_D A (w_X3_countFurtherGhosts K g_t g_p1 t_shownCount t_loud t_hitBits p1_gapCount p1_targetCount p1_lookCount p1_time p1_gone p1_settings p1_spots) → va_S A s.heap H locs → W p l e rmX3_countFurtherGhosts s m args below meth c H locs 0 0 Q (F0 m pc ls [.int res])) {k_18 : Int32 → Int32 → Int32 → Int32 → Int32 → Option (Int32)} (HK_18 : ∀ (x2 : Int32) (x3 : Int32) (x4 : Int32) (x5 : Int32) (x6 : Int32) (H : Heap) (locs : List Loc) (ls : Array Slot), va_P D vwCl (w_X3_countFurtherGhosts K g_t g_p1 t_shownCount t_loud t_hitBits p1_gapCount p1_targetCount p1_lookCount p1_time p1_gone p1_settings p1_spots) H → va_D A (w_X3_countFurtherGhosts K g_t g_p1 t_shownCount t_loud t_hitBits p1_gapCount p1_targetCount p1_lookCount p1_time p1_gone p1_settings p1_spots) → va_S A s.heap H locs → lv_has ls 8 [(0, .ref (g_t 0)), (1, .ref (g_p1 0)), (2, .int x2), (3, .int x3), (4, .int x4), (5, .int x5), (6, .int x6)] → k_18 x2 x3 x4 x5 x6 = some res → W p l e rmX3_countFurtherGhosts s m args below meth c H locs 0 0 Q (F0 m 18 ls [])) :
    ∀ (n_ : Nat) (x2 : Int32) (x3 : Int32) (x4 : Int32) (x5 : Int32) (x6 : Int32) (x7 : Int32) (H : Heap) (locs : List Loc) (ls : Array Slot), va_P D vwCl (w_X3_countFurtherGhosts K g_t g_p1 t_shownCount t_loud t_hitBits p1_gapCount p1_targetCount p1_lookCount p1_time p1_gone p1_settings p1_spots) H → va_D A (w_X3_countFurtherGhosts K g_t g_p1 t_shownCount t_loud t_hitBits p1_gapCount p1_targetCount p1_lookCount p1_time p1_gone p1_settings p1_spots) → va_S A s.heap H locs → lv_has ls 8 [(0, .ref (g_t 0)), (1, .ref (g_p1 0)), (2, .int x2), (3, .int x3), (4, .int x4), (5, .int x5), (6, .int x6), (7, .int x7)] → L_X3_countFurtherGhosts_39 t_loud t_hitBits p1_gapCount p1_targetCount p1_settings p1_spots k_18 n_ x2 x3 x4 x5 x6 x7 = some res → W p l e rmX3_countFurtherGhosts s m args below meth c H locs 0 0 Q (F0 m 39 ls []) := by
  obtain ⟨⟨hx, hb, hml, hown, hts⟩, hK, -⟩ := id C0
  intro n_
  induction n_ with
  | zero =>
    intro x2 x3 x4 x5 x6 x7 H locs ls hP hD hS hl hF
    exact no_s (show (none : Option (Int32)) = some res from hF)
  | succ n_ ih =>
    intro x2 x3 x4 x5 x6 x7 H locs ls hP hD hS hl hF
    rw [L_X3_countFurtherGhosts_39] at hF
    refine lv_iload hx hb dX3_countFurtherGhosts_39 (lv_at hl 7 rfl) ?_
    refine lv_aload_n hx hb dX3_countFurtherGhosts_41 rfl (lv_at hl 1 rfl) ?_
    refine va_get (D := D) (ci := 5) (v := .ref (g_p1 2)) (C := RX5) (T := TX5) (N := 13) hx hb hts iw_X3_countFurtherGhosts_X5 hown hK hP 3 rfl rfl 1 (by decide) (hts _ fl_X3_countFurtherGhosts_66) (fun _ h9 => h9) rfl dX3_countFurtherGhosts_42 ?_
    refine lv_iconst (v := 3) hx hb dX3_countFurtherGhosts_45 (by decide) ?_
    refine xl_i (f := p1_settings) hx hb hK hP 4 0 rfl rfl (k := 3) (by decide) (in_v (by decide)) dX3_countFurtherGhosts_46 ?_
    refine lv_icmp_ge (tgt := 73) hx hb dX3_countFurtherGhosts_47 (by decide) (fun c_1 => ?_) (fun c_1 => ?_)
    · have hF := it_pos c_1 hF
      refine lv_iinc (v := (x6 + (1 : Int32))) (lv' := [(6, .int (x6 + (1 : Int32))), (0, .ref (g_t 0)), (1, .ref (g_p1 0)), (2, .int x2), (3, .int x3), (4, .int x4), (5, .int x5), (7, .int x7)]) hx hb dX3_countFurtherGhosts_73 hl (k := 6) rfl (congrArg (fun z => x6 + z) (by decide)) (by decide) rfl (fun ls hl => ?_)
      refine lv_goto (tgt := 18) hx hb dX3_countFurtherGhosts_76 (by decide) ?_
      exact HK_18 x2 x3 x4 x5 (x6 + (1 : Int32)) H locs ls hP hD hS (lv_sub hl [1, 2, 3, 4, 5, 6, 0] rfl) hF
    · have hF := it_neg c_1 hF
      refine lv_aload_n hx hb dX3_countFurtherGhosts_50 rfl (lv_at hl 0 rfl) ?_
      refine lv_aload_n hx hb dX3_countFurtherGhosts_51 rfl (lv_at hl 1 rfl) ?_
      refine lv_iload hx hb dX3_countFurtherGhosts_52 (lv_at hl 7 rfl) ?_
      obtain ⟨r_2, hc_3, hF⟩ := bn_some hF
      refine xc_i (wn := (w_X3_countFurtherGhosts K g_t g_p1 t_shownCount t_loud t_hitBits p1_gapCount p1_targetCount p1_lookCount p1_time p1_gone p1_settings p1_spots)) hP hD hS C0.2.2.1 [0, 2, 3, 4, 5] [1] [1, 0, 2, 3, 4, 5] rfl rfl (by decide) (by decide) rfl (by decide) (va_runV (As := [.ref (g_p1 0), .int x7]) (rest := []) C0.1 (c_X3_isNearGhost l D K g_t g_p1 t_shownCount t_hitBits p1_gapCount p1_targetCount p1_lookCount p1_time p1_gone p1_settings p1_spots x7 r_2 hc_3 H.size) (cwV 2 hts gX3_countFurtherGhosts_X3_isNearGhost rfl rfl rfl (by decide +kernel) ⟨Nat.le_of_ble_eq_true rfl, Nat.le_of_ble_eq_true rfl⟩) (xp_V C0.2 hP hD hS [0, 2, 3, 4, 5] rfl (by decide) 3 0 rfl rfl rfl) rfl rfl hl.1 rfl (lv_room (Nat.le_of_ble_eq_true rfl)) dX3_countFurtherGhosts_54 ⟨Nat.le_of_ble_eq_true rfl, Nat.le_of_ble_eq_true rfl⟩) (fun H locs hP hD hS => ?_)
      refine lv_if_eq (tgt := 63) hx hb dX3_countFurtherGhosts_57 (by decide) (fun c_4 => ?_) (fun c_4 => ?_)
      · have hF := it_pos c_4 hF
        refine lv_iload hx hb dX3_countFurtherGhosts_63 (lv_at hl 7 rfl) ?_
        refine lv_iload hx hb dX3_countFurtherGhosts_65 (lv_at hl 4 rfl) ?_
        refine lv_iadd hx hb dX3_countFurtherGhosts_67 ?_
        refine lv_istore (lv' := [(7, .int (x7 + x4)), (0, .ref (g_t 0)), (1, .ref (g_p1 0)), (2, .int x2), (3, .int x3), (4, .int x4), (5, .int x5), (6, .int x6)]) hx hb dX3_countFurtherGhosts_68 hl (by decide) rfl (fun ls hl => ?_)
        refine lv_goto (tgt := 39) hx hb dX3_countFurtherGhosts_70 (by decide) ?_
        exact ih x2 x3 x4 x5 x6 (x7 + x4) H locs ls hP hD hS (lv_sub hl [1, 2, 3, 4, 5, 6, 7, 0] rfl) hF
      · have hF := it_neg c_4 hF
        refine lv_iinc (v := (x5 + (1 : Int32))) (lv' := [(5, .int (x5 + (1 : Int32))), (0, .ref (g_t 0)), (1, .ref (g_p1 0)), (2, .int x2), (3, .int x3), (4, .int x4), (6, .int x6), (7, .int x7)]) hx hb dX3_countFurtherGhosts_60 hl (k := 5) rfl (congrArg (fun z => x5 + z) (by decide)) (by decide) rfl (fun ls hl => ?_)
        refine lv_iload hx hb dX3_countFurtherGhosts_63 (lv_at hl 7 rfl) ?_
        refine lv_iload hx hb dX3_countFurtherGhosts_65 (lv_at hl 5 rfl) ?_
        refine lv_iadd hx hb dX3_countFurtherGhosts_67 ?_
        refine lv_istore (lv' := [(7, .int (x7 + x4)), (5, .int (x5 + (1 : Int32))), (0, .ref (g_t 0)), (1, .ref (g_p1 0)), (2, .int x2), (3, .int x3), (4, .int x4), (6, .int x6)]) hx hb dX3_countFurtherGhosts_68 hl (by decide) rfl (fun ls hl => ?_)
        refine lv_goto (tgt := 39) hx hb dX3_countFurtherGhosts_70 (by decide) ?_
        exact ih x2 x3 x4 (x5 + (1 : Int32)) x6 (x7 + x4) H locs ls hP hD hS (lv_sub hl [2, 3, 4, 5, 6, 1, 7, 0] rfl) hF
def L_X3_countFurtherGhosts_18 (t_loud : Nat → Int32) (t_hitBits : Nat → Int32) (p1_gapCount : Int32) (p1_targetCount : Int32) (p1_settings : Nat → Int32) (p1_spots : Nat → Int32) : Nat → Int32 → Int32 → Int32 → Int32 → Int32 → Option (Int32)
  | 0, _, _, _, _, _ => none
  | n_ + 1, x2, x3, x4, x5, x6 =>
    if x2 ≤ x6 then (some x5) else ((F_X3_isEcho t_loud p1_settings x3 x6).bind fun r_2 => (if r_2 = (0 : Int32) then (L_X3_countFurtherGhosts_18 t_loud t_hitBits p1_gapCount p1_targetCount p1_settings p1_spots n_ x2 x3 x4 x5 (x6 + (1 : Int32))) else (L_X3_countFurtherGhosts_39 t_loud t_hitBits p1_gapCount p1_targetCount p1_settings p1_spots (L_X3_countFurtherGhosts_18 t_loud t_hitBits p1_gapCount p1_targetCount p1_settings p1_spots n_) fu_ x2 x3 x4 x5 x6 x6)))
set_option maxHeartbeats 4000000 in
set_option maxRecDepth 100000 in
theorem w_X3_countFurtherGhosts_18 {p : Program} {l : Launch} {e : Env} {s : State} {m : MethodId} {args : Array Value} {below : List Frame} {meth : Method} {c : Code} {D : va_G} {K : Nat → ClassId} {A : Nat → Prop} {Q : State → Prop} (C0 : cx_ p s m args c cX3_countFurtherGhosts 8 RX3 wsX3_countFurtherGhosts D K A) {g_t : Nat → Nat} {g_p1 : Nat → Nat} {t_shownCount : Int32} {t_loud : Nat → Int32} {t_hitBits : Nat → Int32} {p1_gapCount : Int32} {p1_targetCount : Int32} {p1_lookCount : Int32} {p1_time : Int32} {p1_gone : Int32} {p1_settings : Nat → Int32} {p1_spots : Nat → Int32} {res : Int32} (HR : ∀ (pc : Nat) (H : Heap) (locs : List Loc) (ls : Array Slot), decode cX3_countFurtherGhosts pc = .ok (.ireturn, 1) → va_P D vwCl (w_X3_countFurtherGhosts K g_t g_p1 t_shownCount t_loud t_hitBits p1_gapCount p1_targetCount p1_lookCount p1_time p1_gone p1_settings p1_spots) H → va_D A (w_X3_countFurtherGhosts K g_t g_p1 t_shownCount t_loud t_hitBits p1_gapCount p1_targetCount p1_lookCount p1_time p1_gone p1_settings p1_spots) → va_S A s.heap H locs → W p l e rmX3_countFurtherGhosts s m args below meth c H locs 0 0 Q (F0 m pc ls [.int res]))  :
    ∀ (n_ : Nat) (x2 : Int32) (x3 : Int32) (x4 : Int32) (x5 : Int32) (x6 : Int32) (H : Heap) (locs : List Loc) (ls : Array Slot), va_P D vwCl (w_X3_countFurtherGhosts K g_t g_p1 t_shownCount t_loud t_hitBits p1_gapCount p1_targetCount p1_lookCount p1_time p1_gone p1_settings p1_spots) H → va_D A (w_X3_countFurtherGhosts K g_t g_p1 t_shownCount t_loud t_hitBits p1_gapCount p1_targetCount p1_lookCount p1_time p1_gone p1_settings p1_spots) → va_S A s.heap H locs → lv_has ls 8 [(0, .ref (g_t 0)), (1, .ref (g_p1 0)), (2, .int x2), (3, .int x3), (4, .int x4), (5, .int x5), (6, .int x6)] → L_X3_countFurtherGhosts_18 t_loud t_hitBits p1_gapCount p1_targetCount p1_settings p1_spots n_ x2 x3 x4 x5 x6 = some res → W p l e rmX3_countFurtherGhosts s m args below meth c H locs 0 0 Q (F0 m 18 ls []) := by
  obtain ⟨⟨hx, hb, hml, hown, hts⟩, hK, -⟩ := id C0
  intro n_
  induction n_ with
  | zero =>
    intro x2 x3 x4 x5 x6 H locs ls hP hD hS hl hF
    exact no_s (show (none : Option (Int32)) = some res from hF)
  | succ n_ ih =>
    intro x2 x3 x4 x5 x6 H locs ls hP hD hS hl hF
    rw [L_X3_countFurtherGhosts_18] at hF
    refine lv_iload hx hb dX3_countFurtherGhosts_18 (lv_at hl 6 rfl) ?_
    refine lv_iload_n hx hb dX3_countFurtherGhosts_20 rfl (lv_at hl 2 rfl) ?_
    refine lv_icmp_ge (tgt := 79) hx hb dX3_countFurtherGhosts_21 (by decide) (fun c_1 => ?_) (fun c_1 => ?_)
    · have hF := it_pos c_1 hF
      refine lv_iload hx hb dX3_countFurtherGhosts_79 (lv_at hl 5 rfl) ?_
      obtain rfl := Option.some.inj hF
      exact HR 81 H locs ls dX3_countFurtherGhosts_81 hP hD hS
    · have hF := it_neg c_1 hF
      refine lv_aload_n hx hb dX3_countFurtherGhosts_24 rfl (lv_at hl 0 rfl) ?_
      refine lv_aload_n hx hb dX3_countFurtherGhosts_25 rfl (lv_at hl 1 rfl) ?_
      refine lv_iload_n hx hb dX3_countFurtherGhosts_26 rfl (lv_at hl 3 rfl) ?_
      refine lv_iload hx hb dX3_countFurtherGhosts_27 (lv_at hl 6 rfl) ?_
      obtain ⟨r_2, hc_3, hF⟩ := bn_some hF
      refine xc_i (wn := (w_X3_countFurtherGhosts K g_t g_p1 t_shownCount t_loud t_hitBits p1_gapCount p1_targetCount p1_lookCount p1_time p1_gone p1_settings p1_spots)) hP hD hS C0.2.2.1 [0, 1, 3, 4] [2, 5] [2, 3, 0, 4, 5, 1] rfl rfl (by decide) (by decide) rfl (by decide) (va_runV (As := [.ref (g_p1 0), .int x3, .int x6]) (rest := []) C0.1 (c_X3_isEcho l D K g_t g_p1 t_shownCount t_loud p1_gapCount p1_targetCount p1_lookCount p1_time p1_gone p1_settings x3 x6 r_2 hc_3 H.size) (cwV 3 hts gX3_countFurtherGhosts_X3_isEcho rfl rfl rfl (by decide +kernel) ⟨Nat.le_of_ble_eq_true rfl, Nat.le_of_ble_eq_true rfl⟩) (xp_V C0.2 hP hD hS [0, 1, 3, 4] rfl (by decide) 3 0 rfl rfl rfl) rfl rfl hl.1 rfl (lv_room (Nat.le_of_ble_eq_true rfl)) dX3_countFurtherGhosts_29 ⟨Nat.le_of_ble_eq_true rfl, Nat.le_of_ble_eq_true rfl⟩) (fun H locs hP hD hS => ?_)
      refine lv_if_eq (tgt := 73) hx hb dX3_countFurtherGhosts_32 (by decide) (fun c_4 => ?_) (fun c_4 => ?_)
      · have hF := it_pos c_4 hF
        refine lv_iinc (v := (x6 + (1 : Int32))) (lv' := [(6, .int (x6 + (1 : Int32))), (0, .ref (g_t 0)), (1, .ref (g_p1 0)), (2, .int x2), (3, .int x3), (4, .int x4), (5, .int x5)]) hx hb dX3_countFurtherGhosts_73 hl (k := 6) rfl (congrArg (fun z => x6 + z) (by decide)) (by decide) rfl (fun ls hl => ?_)
        refine lv_goto (tgt := 18) hx hb dX3_countFurtherGhosts_76 (by decide) ?_
        exact ih x2 x3 x4 x5 (x6 + (1 : Int32)) H locs ls hP hD hS (lv_sub hl [1, 2, 3, 4, 5, 6, 0] rfl) hF
      · have hF := it_neg c_4 hF
        refine lv_iload hx hb dX3_countFurtherGhosts_35 (lv_at hl 6 rfl) ?_
        refine lv_istore (lv' := [(7, .int x6), (0, .ref (g_t 0)), (1, .ref (g_p1 0)), (2, .int x2), (3, .int x3), (4, .int x4), (5, .int x5), (6, .int x6)]) hx hb dX3_countFurtherGhosts_37 hl (by decide) rfl (fun ls hl => ?_)
        exact w_X3_countFurtherGhosts_39 C0 HR ih fu_ x2 x3 x4 x5 x6 x6 H locs ls hP hD hS (lv_sub hl [1, 2, 3, 4, 5, 6, 7, 0] rfl) hF
def F_X3_countFurtherGhosts (t_loud : Nat → Int32) (t_hitBits : Nat → Int32) (p1_gapCount : Int32) (p1_targetCount : Int32) (p1_settings : Nat → Int32) (p1_spots : Nat → Int32) (x2 : Int32) : Option (Int32) :=
  L_X3_countFurtherGhosts_18 t_loud t_hitBits p1_gapCount p1_targetCount p1_settings p1_spots fu_ x2 p1_gapCount (if x2 < (4 : Int32) then (4 : Int32) else x2) (0 : Int32) (0 : Int32)
set_option maxHeartbeats 4000000 in
set_option maxRecDepth 100000 in
theorem c_X3_countFurtherGhosts (l : Launch) (D : va_G) (K : Nat → ClassId) (g_t : Nat → Nat) (g_p1 : Nat → Nat) (t_shownCount : Int32) (t_loud : Nat → Int32) (t_hitBits : Nat → Int32) (p1_gapCount : Int32) (p1_targetCount : Int32) (p1_lookCount : Int32) (p1_time : Int32) (p1_gone : Int32) (p1_settings : Nat → Int32) (p1_spots : Nat → Int32) (x2 : Int32) (res : Int32) (hF : F_X3_countFurtherGhosts t_loud t_hitBits p1_gapCount p1_targetCount p1_settings p1_spots x2 = some res) :
    Mi_ l yX3_countFurtherGhosts wsX3_countFurtherGhosts rmX3_countFurtherGhosts D K [.ref (g_t 0), .ref (g_p1 0), .int x2] (w_X3_countFurtherGhosts K g_t g_p1 t_shownCount t_loud t_hitBits p1_gapCount p1_targetCount p1_lookCount p1_time p1_gone p1_settings p1_spots) (w_X3_countFurtherGhosts K g_t g_p1 t_shownCount t_loud t_hitBits p1_gapCount p1_targetCount p1_lookCount p1_time p1_gone p1_settings p1_spots) (res) := by
  refine en_i (cc := cX3_countFurtherGhosts) (maxL := 8) (own := RX3) (by decide) rfl rfl (Nat.le_of_ble_eq_true rfl) ?_
  intro p e s m args below meth c A Q H locs ls C0 hP hD hS hl HR
  obtain ⟨⟨hx, hb, hml, hown, hts⟩, hK, -⟩ := id C0
  have hl : lv_has ls 8 [(0, .ref (g_t 0)), (1, .ref (g_p1 0)), (2, .int x2)] := hl
  unfold F_X3_countFurtherGhosts at hF
  refine lv_aload_n hx hb dX3_countFurtherGhosts_0 rfl (lv_at hl 1 rfl) ?_
  refine va_get (D := D) (ci := 5) (v := .int p1_gapCount) (C := RX5) (T := TX5) (N := 13) hx hb hts iw_X3_countFurtherGhosts_X5 hown hK hP 3 rfl rfl 8 (by decide) (hts _ fl_X3_countFurtherGhosts_27) (fun _ h9 => h9) rfl dX3_countFurtherGhosts_1 ?_
  refine lv_istore_n (lv' := [(3, .int p1_gapCount), (0, .ref (g_t 0)), (1, .ref (g_p1 0)), (2, .int x2)]) hx hb dX3_countFurtherGhosts_4 rfl hl (by decide) rfl (fun ls hl => ?_)
  refine lv_iload_n hx hb dX3_countFurtherGhosts_5 rfl (lv_at hl 3 rfl) ?_
  refine lv_iconst (v := 4) hx hb dX3_countFurtherGhosts_6 (by decide) ?_
  refine va_mmax hx hb (hml.trans hl.1.symm) hown (hts (.methodLink RX3 104 Lib.Math.max.name) (by decide +kernel)) (hts (.static Lib.Math.max.name) (by decide +kernel)) (hts (.initialized "java/lang/Math") (by decide +kernel)) (hts (.code Lib.Math.max.name Lib.Math.max.code 2 (some .int)) (by decide +kernel)) (Nat.le_of_ble_eq_true rfl) (Nat.le_of_ble_eq_true rfl) (Nat.le_of_ble_eq_true rfl) (Nat.le_of_ble_eq_true rfl) dX3_countFurtherGhosts_7 ?_
  refine lv_istore (lv' := [(4, .int (if x2 < (4 : Int32) then (4 : Int32) else x2)), (3, .int p1_gapCount), (0, .ref (g_t 0)), (1, .ref (g_p1 0)), (2, .int x2)]) hx hb dX3_countFurtherGhosts_10 hl (by decide) rfl (fun ls hl => ?_)
  refine lv_iconst (v := 0) hx hb dX3_countFurtherGhosts_12 (by decide) ?_
  refine lv_istore (lv' := [(5, .int (0 : Int32)), (4, .int (if x2 < (4 : Int32) then (4 : Int32) else x2)), (3, .int p1_gapCount), (0, .ref (g_t 0)), (1, .ref (g_p1 0)), (2, .int x2)]) hx hb dX3_countFurtherGhosts_13 hl (by decide) rfl (fun ls hl => ?_)
  refine lv_iconst (v := 0) hx hb dX3_countFurtherGhosts_15 (by decide) ?_
  refine lv_istore (lv' := [(6, .int (0 : Int32)), (5, .int (0 : Int32)), (4, .int (if x2 < (4 : Int32) then (4 : Int32) else x2)), (3, .int p1_gapCount), (0, .ref (g_t 0)), (1, .ref (g_p1 0)), (2, .int x2)]) hx hb dX3_countFurtherGhosts_16 hl (by decide) rfl (fun ls hl => ?_)
  exact w_X3_countFurtherGhosts_18 C0 HR fu_ x2 p1_gapCount (if x2 < (4 : Int32) then (4 : Int32) else x2) (0 : Int32) (0 : Int32) H locs ls hP hD hS (lv_sub hl [4, 5, 6, 3, 2, 1, 0] rfl) hF

/-! StaggerRadar.Adviser.weighGhosts(LStaggerRadar$Radar;LStaggerRadar$Echoes;)V -/
abbrev rmX0_weighGhosts : Room := { frames := 4, cells := 0, slots := 0, locals := 93 }
theorem fl_X0_weighGhosts_9 : Cond.fieldLink RX0 9 "StaggerRadar$Adviser" "weight" "[I" ∈ wsX0_weighGhosts := by decide +kernel
theorem fl_X0_weighGhosts_42 : Cond.fieldLink RX0 42 "StaggerRadar$Radar" "gapCount" "I" ∈ wsX0_weighGhosts := by decide +kernel
theorem iw_X0_weighGhosts_X0 : ∀ w ∈ u_ws RX0 TX0 1, w ∈ wsX0_weighGhosts := by decide +kernel
theorem iw_X0_weighGhosts_X3 : ∀ w ∈ u_ws RX3 TX3 6, w ∈ wsX0_weighGhosts := by decide +kernel
theorem iw_X0_weighGhosts_X5 : ∀ w ∈ u_ws RX5 TX5 13, w ∈ wsX0_weighGhosts := by decide +kernel
abbrev w_X0_weighGhosts (K : Nat → ClassId) (g_t : Nat → Nat) (g_p1 : Nat → Nat) (g_p2 : Nat → Nat) (t_weight : Nat → Int32) (p1_gapCount : Int32) (p1_targetCount : Int32) (p1_lookCount : Int32) (p1_time : Int32) (p1_gone : Int32) (p1_gaps : Nat → Int32) (p1_settings : Nat → Int32) (p1_spots : Nat → Int32) (p1_speeds : Nat → Int32) (p1_strengths : Nat → Int32) (p2_shownCount : Int32) (p2_targets : Nat → Int32) (p2_loud : Nat → Int32) (p2_hitBits : Nat → Int32) : va_W := [((g_t 0), .inr (0, [.ref (g_t 1)])), ((g_t 1), .inl (K 0, 61, .inl t_weight)), ((g_p1 0), .inr (5, [.ref (g_p1 1), .ref (g_p1 2), .ref (g_p1 3), .ref (g_p1 4), .ref (g_p1 5), .ref (g_p1 6), .ref (g_p1 7), .ref (g_p1 8), .int p1_gapCount, .int p1_targetCount, .int p1_lookCount, .int p1_time, .int p1_gone])), ((g_p1 1), .inl (K 0, 5, .inl p1_gaps)), ((g_p1 2), .inl (K 0, 7, .inl p1_settings)), ((g_p1 3), .inl (K 0, 8, .inl p1_spots)), ((g_p1 4), .inl (K 0, 8, .inl p1_speeds)), ((g_p1 5), .inl (K 0, 8, .inl p1_strengths)), ((g_p2 0), .inr (3, [.ref (g_p2 1), .ref (g_p2 2), .ref (g_p2 3), .ref (g_p2 4), .ref (g_p2 5), .int p2_shownCount])), ((g_p2 1), .inl (K 0, 300, .inl p2_targets)), ((g_p2 2), .inl (K 0, 300, .inl p2_loud)), ((g_p2 3), .inl (K 0, 1000, .inl p2_hitBits))]
def L_X0_weighGhosts_7 (p1_gapCount : Int32) (p1_targetCount : Int32) (p1_gaps : Nat → Int32) (p1_settings : Nat → Int32) (p1_spots : Nat → Int32) (p1_speeds : Nat → Int32) (p1_strengths : Nat → Int32) : Nat → (Nat → Int32) → (Nat → Int32) → (Nat → Int32) → (Nat → Int32) → Int32 → Option ((Nat → Int32) × (Nat → Int32) × (Nat → Int32) × (Nat → Int32))
  | 0, _, _, _, _, _ => none
  | n_ + 1, t_weight, p2_targets, p2_loud, p2_hitBits, x3 =>
    if (60 : Int32) < x3 then (some (t_weight, p2_targets, p2_loud, p2_hitBits)) else ((F_X3_listenBy p2_targets p2_loud p1_targetCount p1_settings p1_spots p1_speeds p1_strengths p1_gapCount x3).bind fun r_2 => ((F_X3_countFurtherGhosts r_2.2 p2_hitBits p1_gapCount p1_targetCount p1_settings p1_spots x3).bind fun r_4 => (gd_ (in_b x3 61) (L_X0_weighGhosts_7 p1_gapCount p1_targetCount p1_gaps p1_settings p1_spots p1_speeds p1_strengths n_ (upd t_weight (x3).toNatClampNeg r_4) r_2.1 r_2.2 p2_hitBits (x3 + (1 : Int32))))))
set_option maxHeartbeats 4000000 in
set_option maxRecDepth 100000 in
theorem w_X0_weighGhosts_7 {p : Program} {l : Launch} {e : Env} {s : State} {m : MethodId} {args : Array Value} {below : List Frame} {meth : Method} {c : Code} {D : va_G} {K : Nat → ClassId} {A : Nat → Prop} {Q : State → Prop} (C0 : cx_ p s m args c cX0_weighGhosts 4 RX0 wsX0_weighGhosts D K A) {g_t : Nat → Nat} {g_p1 : Nat → Nat} {g_p2 : Nat → Nat} {p1_gapCount : Int32} {p1_targetCount : Int32} {p1_lookCount : Int32} {p1_time : Int32} {p1_gone : Int32} {p1_gaps : Nat → Int32} {p1_settings : Nat → Int32} {p1_spots : Nat → Int32} {p1_speeds : Nat → Int32} {p1_strengths : Nat → Int32} {p2_shownCount : Int32} {res : (Nat → Int32) × (Nat → Int32) × (Nat → Int32) × (Nat → Int32)} (HR : ∀ (pc : Nat) (H : Heap) (locs : List Loc) (ls : Array Slot), decode cX0_weighGhosts pc = .ok (.return_, 1) → va_P D vwCl (w_X0_weighGhosts K g_t g_p1 g_p2 res.1 p1_gapCount p1_targetCount p1_lookCount p1_time p1_gone p1_gaps p1_settings p1_spots p1_speeds p1_strengths p2_shownCount res.2.1 res.2.2.1 res.2.2.2) H → va_D A (w_X0_weighGhosts K g_t g_p1 g_p2 res.1 p1_gapCount p1_targetCount p1_lookCount p1_time p1_gone p1_gaps p1_settings p1_spots p1_speeds p1_strengths p2_shownCount res.2.1 res.2.2.1 res.2.2.2) → va_S A s.heap H locs → W p l e rmX0_weighGhosts s m args below meth c H locs 0 0 Q (F0 m pc ls []))  :
    ∀ (n_ : Nat) (t_weight : Nat → Int32) (p2_targets : Nat → Int32) (p2_loud : Nat → Int32) (p2_hitBits : Nat → Int32) (x3 : Int32) (H : Heap) (locs : List Loc) (ls : Array Slot), va_P D vwCl (w_X0_weighGhosts K g_t g_p1 g_p2 t_weight p1_gapCount p1_targetCount p1_lookCount p1_time p1_gone p1_gaps p1_settings p1_spots p1_speeds p1_strengths p2_shownCount p2_targets p2_loud p2_hitBits) H → va_D A (w_X0_weighGhosts K g_t g_p1 g_p2 t_weight p1_gapCount p1_targetCount p1_lookCount p1_time p1_gone p1_gaps p1_settings p1_spots p1_speeds p1_strengths p2_shownCount p2_targets p2_loud p2_hitBits) → va_S A s.heap H locs → lv_has ls 4 [(0, .ref (g_t 0)), (1, .ref (g_p1 0)), (2, .ref (g_p2 0)), (3, .int x3)] → L_X0_weighGhosts_7 p1_gapCount p1_targetCount p1_gaps p1_settings p1_spots p1_speeds p1_strengths n_ t_weight p2_targets p2_loud p2_hitBits x3 = some res → W p l e rmX0_weighGhosts s m args below meth c H locs 0 0 Q (F0 m 7 ls []) := by
  obtain ⟨⟨hx, hb, hml, hown, hts⟩, hK, -⟩ := id C0
  intro n_
  induction n_ with
  | zero =>
    intro t_weight p2_targets p2_loud p2_hitBits x3 H locs ls hP hD hS hl hF
    exact no_s (show (none : Option ((Nat → Int32) × (Nat → Int32) × (Nat → Int32) × (Nat → Int32))) = some res from hF)
  | succ n_ ih =>
    intro t_weight p2_targets p2_loud p2_hitBits x3 H locs ls hP hD hS hl hF
    rw [L_X0_weighGhosts_7] at hF
    refine lv_iload_n hx hb dX0_weighGhosts_7 rfl (lv_at hl 3 rfl) ?_
    refine lv_bipush (v := 60) hx hb dX0_weighGhosts_8 (by decide) ?_
    refine lv_icmp_gt (tgt := 41) hx hb dX0_weighGhosts_10 (by decide) (fun c_1 => ?_) (fun c_1 => ?_)
    · have hF := it_pos c_1 hF
      obtain rfl := Option.some.inj hF
      exact HR 41 H locs ls dX0_weighGhosts_41 hP hD hS
    · have hF := it_neg c_1 hF
      refine lv_aload_n hx hb dX0_weighGhosts_13 rfl (lv_at hl 2 rfl) ?_
      refine lv_aload_n hx hb dX0_weighGhosts_14 rfl (lv_at hl 1 rfl) ?_
      refine lv_aload_n hx hb dX0_weighGhosts_15 rfl (lv_at hl 1 rfl) ?_
      refine va_get (D := D) (ci := 5) (v := .int p1_gapCount) (C := RX5) (T := TX5) (N := 13) hx hb hts iw_X0_weighGhosts_X5 hown hK hP 2 rfl rfl 8 (by decide) (hts _ fl_X0_weighGhosts_42) (fun _ h9 => h9) rfl dX0_weighGhosts_16 ?_
      refine lv_iload_n hx hb dX0_weighGhosts_19 rfl (lv_at hl 3 rfl) ?_
      obtain ⟨r_2, hc_3, hF⟩ := bn_some hF
      refine xc_v (wn := (w_X0_weighGhosts K g_t g_p1 g_p2 t_weight p1_gapCount p1_targetCount p1_lookCount p1_time p1_gone p1_gaps p1_settings p1_spots p1_speeds p1_strengths p2_shownCount r_2.1 r_2.2 p2_hitBits)) hP hD hS C0.2.2.1 [8, 9, 10, 2, 4, 5, 6, 7] [0, 1, 3, 11] [0, 1, 7, 2, 8, 9, 10, 11, 4, 5, 6, 3] rfl rfl (by decide) (by decide) rfl (by decide) (va_runV (As := [.ref (g_p1 0), .int p1_gapCount, .int x3]) (rest := []) C0.1 (c_X3_listenBy l D K g_p2 g_p1 p2_shownCount p2_targets p2_loud p1_gapCount p1_targetCount p1_lookCount p1_time p1_gone p1_settings p1_spots p1_speeds p1_strengths p1_gapCount x3 r_2 hc_3 H.size) (cwV 3 hts gX0_weighGhosts_X3_listenBy rfl rfl rfl (by decide +kernel) ⟨Nat.le_of_ble_eq_true rfl, Nat.le_of_ble_eq_true rfl⟩) (xp_V C0.2 hP hD hS [8, 9, 10, 2, 4, 5, 6, 7] rfl (by decide) 3 0 rfl rfl rfl) rfl rfl hl.1 rfl (lv_room (Nat.le_of_ble_eq_true rfl)) dX0_weighGhosts_20 ⟨Nat.le_of_ble_eq_true rfl, Nat.le_of_ble_eq_true rfl⟩) (fun H locs hP hD hS => ?_)
      refine lv_aload_n hx hb dX0_weighGhosts_23 rfl (lv_at hl 0 rfl) ?_
      refine va_get (D := D) (ci := 0) (v := .ref (g_t 1)) (C := RX0) (T := TX0) (N := 1) hx hb hts iw_X0_weighGhosts_X0 hown hK hP 0 rfl rfl 0 (by decide) (hts _ fl_X0_weighGhosts_9) (fun _ h9 => h9) rfl dX0_weighGhosts_24 ?_
      refine lv_iload_n hx hb dX0_weighGhosts_27 rfl (lv_at hl 3 rfl) ?_
      refine lv_aload_n hx hb dX0_weighGhosts_28 rfl (lv_at hl 2 rfl) ?_
      refine lv_aload_n hx hb dX0_weighGhosts_29 rfl (lv_at hl 1 rfl) ?_
      refine lv_iload_n hx hb dX0_weighGhosts_30 rfl (lv_at hl 3 rfl) ?_
      obtain ⟨r_4, hc_5, hF⟩ := bn_some hF
      refine xc_i (wn := (w_X0_weighGhosts K g_t g_p1 g_p2 t_weight p1_gapCount p1_targetCount p1_lookCount p1_time p1_gone p1_gaps p1_settings p1_spots p1_speeds p1_strengths p2_shownCount r_2.1 r_2.2 p2_hitBits)) hP hD hS C0.2.2.1 [8, 10, 11, 2, 4, 5] [0, 1, 3, 6, 7, 9] [0, 1, 9, 2, 10, 11, 3, 4, 6, 5, 7, 8] rfl rfl (by decide) (by decide) rfl (by decide) (va_runV (As := [.ref (g_p1 0), .int x3]) (rest := [.int x3, .ref (g_t 1)]) C0.1 (c_X3_countFurtherGhosts l D K g_p2 g_p1 p2_shownCount r_2.2 p2_hitBits p1_gapCount p1_targetCount p1_lookCount p1_time p1_gone p1_settings p1_spots x3 r_4 hc_5 H.size) (cwV 2 hts gX0_weighGhosts_X3_countFurtherGhosts rfl rfl rfl (by decide +kernel) ⟨Nat.le_of_ble_eq_true rfl, Nat.le_of_ble_eq_true rfl⟩) (xp_V C0.2 hP hD hS [8, 10, 11, 2, 4, 5] rfl (by decide) 3 0 rfl rfl rfl) rfl rfl hl.1 rfl (lv_room (Nat.le_of_ble_eq_true rfl)) dX0_weighGhosts_31 ⟨Nat.le_of_ble_eq_true rfl, Nat.le_of_ble_eq_true rfl⟩) (fun H locs hP hD hS => ?_)
      obtain ⟨hg_6, hF⟩ := gd_some hF
      refine xs_i (f := t_weight) hx hb hK hP hD hS 1 0 rfl rfl rfl (in_v hg_6) dX0_weighGhosts_34 (fun H locs hP hD hS => ?_)
      have hP : va_P D vwCl (w_X0_weighGhosts K g_t g_p1 g_p2 (upd t_weight (x3).toNatClampNeg r_4) p1_gapCount p1_targetCount p1_lookCount p1_time p1_gone p1_gaps p1_settings p1_spots p1_speeds p1_strengths p2_shownCount r_2.1 r_2.2 p2_hitBits) H := hP
      have hD : va_D A (w_X0_weighGhosts K g_t g_p1 g_p2 (upd t_weight (x3).toNatClampNeg r_4) p1_gapCount p1_targetCount p1_lookCount p1_time p1_gone p1_gaps p1_settings p1_spots p1_speeds p1_strengths p2_shownCount r_2.1 r_2.2 p2_hitBits) := hD
      refine lv_iinc (v := (x3 + (1 : Int32))) (lv' := [(3, .int (x3 + (1 : Int32))), (0, .ref (g_t 0)), (1, .ref (g_p1 0)), (2, .ref (g_p2 0))]) hx hb dX0_weighGhosts_35 hl (k := 3) rfl (congrArg (fun z => x3 + z) (by decide)) (by decide) rfl (fun ls hl => ?_)
      refine lv_goto (tgt := 7) hx hb dX0_weighGhosts_38 (by decide) ?_
      exact ih (upd t_weight (x3).toNatClampNeg r_4) r_2.1 r_2.2 p2_hitBits (x3 + (1 : Int32)) H locs ls hP hD hS (lv_sub hl [1, 2, 3, 0] rfl) hF
def F_X0_weighGhosts (t_weight : Nat → Int32) (p1_gapCount : Int32) (p1_targetCount : Int32) (p1_gaps : Nat → Int32) (p1_settings : Nat → Int32) (p1_spots : Nat → Int32) (p1_speeds : Nat → Int32) (p1_strengths : Nat → Int32) (p2_targets : Nat → Int32) (p2_loud : Nat → Int32) (p2_hitBits : Nat → Int32) : Option ((Nat → Int32) × (Nat → Int32) × (Nat → Int32) × (Nat → Int32)) :=
  (F_X3_markHits p2_loud p2_hitBits p1_gapCount p1_gaps p1_settings).bind fun r_1 => (L_X0_weighGhosts_7 p1_gapCount p1_targetCount p1_gaps p1_settings p1_spots p1_speeds p1_strengths fu_ t_weight p2_targets p2_loud r_1 (4 : Int32))
set_option maxHeartbeats 4000000 in
set_option maxRecDepth 100000 in
theorem c_X0_weighGhosts (l : Launch) (D : va_G) (K : Nat → ClassId) (g_t : Nat → Nat) (g_p1 : Nat → Nat) (g_p2 : Nat → Nat) (t_weight : Nat → Int32) (p1_gapCount : Int32) (p1_targetCount : Int32) (p1_lookCount : Int32) (p1_time : Int32) (p1_gone : Int32) (p1_gaps : Nat → Int32) (p1_settings : Nat → Int32) (p1_spots : Nat → Int32) (p1_speeds : Nat → Int32) (p1_strengths : Nat → Int32) (p2_shownCount : Int32) (p2_targets : Nat → Int32) (p2_loud : Nat → Int32) (p2_hitBits : Nat → Int32) (res : (Nat → Int32) × (Nat → Int32) × (Nat → Int32) × (Nat → Int32)) (hF : F_X0_weighGhosts t_weight p1_gapCount p1_targetCount p1_gaps p1_settings p1_spots p1_speeds p1_strengths p2_targets p2_loud p2_hitBits = some res) :
    Mv_ l yX0_weighGhosts wsX0_weighGhosts rmX0_weighGhosts D K [.ref (g_t 0), .ref (g_p1 0), .ref (g_p2 0)] (w_X0_weighGhosts K g_t g_p1 g_p2 t_weight p1_gapCount p1_targetCount p1_lookCount p1_time p1_gone p1_gaps p1_settings p1_spots p1_speeds p1_strengths p2_shownCount p2_targets p2_loud p2_hitBits) (w_X0_weighGhosts K g_t g_p1 g_p2 res.1 p1_gapCount p1_targetCount p1_lookCount p1_time p1_gone p1_gaps p1_settings p1_spots p1_speeds p1_strengths p2_shownCount res.2.1 res.2.2.1 res.2.2.2) := by
  refine en_v (cc := cX0_weighGhosts) (maxL := 4) (own := RX0) (by decide) rfl rfl (Nat.le_of_ble_eq_true rfl) ?_
  intro p e s m args below meth c A Q H locs ls C0 hP hD hS hl HR
  obtain ⟨⟨hx, hb, hml, hown, hts⟩, hK, -⟩ := id C0
  have hl : lv_has ls 4 [(0, .ref (g_t 0)), (1, .ref (g_p1 0)), (2, .ref (g_p2 0))] := hl
  unfold F_X0_weighGhosts at hF
  refine lv_aload_n hx hb dX0_weighGhosts_0 rfl (lv_at hl 2 rfl) ?_
  refine lv_aload_n hx hb dX0_weighGhosts_1 rfl (lv_at hl 1 rfl) ?_
  obtain ⟨r_1, hc_2, hF⟩ := bn_some hF
  refine xc_v (wn := (w_X0_weighGhosts K g_t g_p1 g_p2 t_weight p1_gapCount p1_targetCount p1_lookCount p1_time p1_gone p1_gaps p1_settings p1_spots p1_speeds p1_strengths p2_shownCount p2_targets p2_loud r_1)) hP hD hS C0.2.2.1 [8, 10, 11, 2, 3, 4] [0, 1, 5, 6, 7, 9] [0, 1, 9, 10, 11, 2, 3, 4, 6, 5, 7, 8] rfl rfl (by decide) (by decide) rfl (by decide) (va_runV (As := [.ref (g_p1 0)]) (rest := []) C0.1 (c_X3_markHits l D K g_p2 g_p1 p2_shownCount p2_loud p2_hitBits p1_gapCount p1_targetCount p1_lookCount p1_time p1_gone p1_gaps p1_settings r_1 hc_2 H.size) (cwV 1 hts gX0_weighGhosts_X3_markHits rfl rfl rfl (by decide +kernel) ⟨Nat.le_of_ble_eq_true rfl, Nat.le_of_ble_eq_true rfl⟩) (xp_V C0.2 hP hD hS [8, 10, 11, 2, 3, 4] rfl (by decide) 3 0 rfl rfl rfl) rfl rfl hl.1 rfl (lv_room (Nat.le_of_ble_eq_true rfl)) dX0_weighGhosts_2 ⟨Nat.le_of_ble_eq_true rfl, Nat.le_of_ble_eq_true rfl⟩) (fun H locs hP hD hS => ?_)
  refine lv_iconst (v := 4) hx hb dX0_weighGhosts_5 (by decide) ?_
  refine lv_istore_n (lv' := [(3, .int (4 : Int32)), (0, .ref (g_t 0)), (1, .ref (g_p1 0)), (2, .ref (g_p2 0))]) hx hb dX0_weighGhosts_6 rfl hl (by decide) rfl (fun ls hl => ?_)
  exact w_X0_weighGhosts_7 C0 HR fu_ t_weight p2_targets p2_loud r_1 (4 : Int32) H locs ls hP hD hS (lv_sub hl [1, 2, 3, 0] rfl) hF

/-! StaggerRadar.Radar.copyFrom(LStaggerRadar$Radar;)V -/
abbrev rmX5_copyFrom : Room := { frames := 1, cells := 0, slots := 0, locals := 60 }
theorem fl_X5_copyFrom_9 : Cond.fieldLink RX5 9 "StaggerRadar$Radar" "gaps" "[I" ∈ wsX5_copyFrom := by decide +kernel
theorem fl_X5_copyFrom_15 : Cond.fieldLink RX5 15 "StaggerRadar$Radar" "settings" "[I" ∈ wsX5_copyFrom := by decide +kernel
theorem fl_X5_copyFrom_18 : Cond.fieldLink RX5 18 "StaggerRadar$Radar" "spots" "[I" ∈ wsX5_copyFrom := by decide +kernel
theorem fl_X5_copyFrom_21 : Cond.fieldLink RX5 21 "StaggerRadar$Radar" "speeds" "[I" ∈ wsX5_copyFrom := by decide +kernel
theorem fl_X5_copyFrom_24 : Cond.fieldLink RX5 24 "StaggerRadar$Radar" "strengths" "[I" ∈ wsX5_copyFrom := by decide +kernel
theorem fl_X5_copyFrom_27 : Cond.fieldLink RX5 27 "StaggerRadar$Radar" "lookTimes" "[I" ∈ wsX5_copyFrom := by decide +kernel
theorem fl_X5_copyFrom_30 : Cond.fieldLink RX5 30 "StaggerRadar$Radar" "lookSizes" "[I" ∈ wsX5_copyFrom := by decide +kernel
theorem fl_X5_copyFrom_33 : Cond.fieldLink RX5 33 "StaggerRadar$Radar" "lookNumbers" "[I" ∈ wsX5_copyFrom := by decide +kernel
theorem fl_X5_copyFrom_45 : Cond.fieldLink RX5 45 "StaggerRadar$Radar" "gapCount" "I" ∈ wsX5_copyFrom := by decide +kernel
theorem fl_X5_copyFrom_49 : Cond.fieldLink RX5 49 "StaggerRadar$Radar" "targetCount" "I" ∈ wsX5_copyFrom := by decide +kernel
theorem fl_X5_copyFrom_52 : Cond.fieldLink RX5 52 "StaggerRadar$Radar" "lookCount" "I" ∈ wsX5_copyFrom := by decide +kernel
theorem fl_X5_copyFrom_55 : Cond.fieldLink RX5 55 "StaggerRadar$Radar" "time" "I" ∈ wsX5_copyFrom := by decide +kernel
theorem fl_X5_copyFrom_58 : Cond.fieldLink RX5 58 "StaggerRadar$Radar" "gone" "I" ∈ wsX5_copyFrom := by decide +kernel
theorem iw_X5_copyFrom_X5 : ∀ w ∈ u_ws RX5 TX5 13, w ∈ wsX5_copyFrom := by decide +kernel
abbrev w_X5_copyFrom (K : Nat → ClassId) (g_t : Nat → Nat) (g_p1 : Nat → Nat) (t_gapCount : Int32) (t_targetCount : Int32) (t_lookCount : Int32) (t_time : Int32) (t_gone : Int32) (t_gaps : Nat → Int32) (t_settings : Nat → Int32) (t_spots : Nat → Int32) (t_speeds : Nat → Int32) (t_strengths : Nat → Int32) (t_lookTimes : Nat → Int32) (t_lookSizes : Nat → Int32) (t_lookNumbers : Nat → Int32) (p1_gapCount : Int32) (p1_targetCount : Int32) (p1_lookCount : Int32) (p1_time : Int32) (p1_gone : Int32) (p1_gaps : Nat → Int32) (p1_settings : Nat → Int32) (p1_spots : Nat → Int32) (p1_speeds : Nat → Int32) (p1_strengths : Nat → Int32) (p1_lookTimes : Nat → Int32) (p1_lookSizes : Nat → Int32) (p1_lookNumbers : Nat → Int32) : va_W := [((g_t 0), .inr (5, [.ref (g_t 1), .ref (g_t 2), .ref (g_t 3), .ref (g_t 4), .ref (g_t 5), .ref (g_t 6), .ref (g_t 7), .ref (g_t 8), .int t_gapCount, .int t_targetCount, .int t_lookCount, .int t_time, .int t_gone])), ((g_t 1), .inl (K 0, 5, .inl t_gaps)), ((g_t 2), .inl (K 0, 7, .inl t_settings)), ((g_t 3), .inl (K 0, 8, .inl t_spots)), ((g_t 4), .inl (K 0, 8, .inl t_speeds)), ((g_t 5), .inl (K 0, 8, .inl t_strengths)), ((g_t 6), .inl (K 0, 4, .inl t_lookTimes)), ((g_t 7), .inl (K 0, 4, .inl t_lookSizes)), ((g_t 8), .inl (K 0, 48, .inl t_lookNumbers)), ((g_p1 0), .inr (5, [.ref (g_p1 1), .ref (g_p1 2), .ref (g_p1 3), .ref (g_p1 4), .ref (g_p1 5), .ref (g_p1 6), .ref (g_p1 7), .ref (g_p1 8), .int p1_gapCount, .int p1_targetCount, .int p1_lookCount, .int p1_time, .int p1_gone])), ((g_p1 1), .inl (K 0, 5, .inl p1_gaps)), ((g_p1 2), .inl (K 0, 7, .inl p1_settings)), ((g_p1 3), .inl (K 0, 8, .inl p1_spots)), ((g_p1 4), .inl (K 0, 8, .inl p1_speeds)), ((g_p1 5), .inl (K 0, 8, .inl p1_strengths)), ((g_p1 6), .inl (K 0, 4, .inl p1_lookTimes)), ((g_p1 7), .inl (K 0, 4, .inl p1_lookSizes)), ((g_p1 8), .inl (K 0, 48, .inl p1_lookNumbers))]
def F_X5_copyFrom (t_gapCount : Int32) (t_targetCount : Int32) (t_lookCount : Int32) (t_time : Int32) (t_gone : Int32) (t_gaps : Nat → Int32) (t_settings : Nat → Int32) (t_spots : Nat → Int32) (t_speeds : Nat → Int32) (t_strengths : Nat → Int32) (t_lookTimes : Nat → Int32) (t_lookSizes : Nat → Int32) (t_lookNumbers : Nat → Int32) (p1_gapCount : Int32) (p1_targetCount : Int32) (p1_lookCount : Int32) (p1_time : Int32) (p1_gone : Int32) (p1_gaps : Nat → Int32) (p1_settings : Nat → Int32) (p1_spots : Nat → Int32) (p1_speeds : Nat → Int32) (p1_strengths : Nat → Int32) (p1_lookTimes : Nat → Int32) (p1_lookSizes : Nat → Int32) (p1_lookNumbers : Nat → Int32) : Option (Int32 × Int32 × Int32 × Int32 × Int32 × (Nat → Int32) × (Nat → Int32) × (Nat → Int32) × (Nat → Int32) × (Nat → Int32) × (Nat → Int32) × (Nat → Int32) × (Nat → Int32)) :=
  some (p1_gapCount, p1_targetCount, p1_lookCount, p1_time, p1_gone, (va_cpy p1_gaps t_gaps 0 0 5), (va_cpy p1_settings t_settings 0 0 7), (va_cpy p1_spots t_spots 0 0 8), (va_cpy p1_speeds t_speeds 0 0 8), (va_cpy p1_strengths t_strengths 0 0 8), (va_cpy p1_lookTimes t_lookTimes 0 0 4), (va_cpy p1_lookSizes t_lookSizes 0 0 4), (va_cpy p1_lookNumbers t_lookNumbers 0 0 48))
set_option maxHeartbeats 4000000 in
set_option maxRecDepth 100000 in
theorem c_X5_copyFrom (l : Launch) (D : va_G) (K : Nat → ClassId) (g_t : Nat → Nat) (g_p1 : Nat → Nat) (t_gapCount : Int32) (t_targetCount : Int32) (t_lookCount : Int32) (t_time : Int32) (t_gone : Int32) (t_gaps : Nat → Int32) (t_settings : Nat → Int32) (t_spots : Nat → Int32) (t_speeds : Nat → Int32) (t_strengths : Nat → Int32) (t_lookTimes : Nat → Int32) (t_lookSizes : Nat → Int32) (t_lookNumbers : Nat → Int32) (p1_gapCount : Int32) (p1_targetCount : Int32) (p1_lookCount : Int32) (p1_time : Int32) (p1_gone : Int32) (p1_gaps : Nat → Int32) (p1_settings : Nat → Int32) (p1_spots : Nat → Int32) (p1_speeds : Nat → Int32) (p1_strengths : Nat → Int32) (p1_lookTimes : Nat → Int32) (p1_lookSizes : Nat → Int32) (p1_lookNumbers : Nat → Int32) (res : Int32 × Int32 × Int32 × Int32 × Int32 × (Nat → Int32) × (Nat → Int32) × (Nat → Int32) × (Nat → Int32) × (Nat → Int32) × (Nat → Int32) × (Nat → Int32) × (Nat → Int32)) (hF : F_X5_copyFrom t_gapCount t_targetCount t_lookCount t_time t_gone t_gaps t_settings t_spots t_speeds t_strengths t_lookTimes t_lookSizes t_lookNumbers p1_gapCount p1_targetCount p1_lookCount p1_time p1_gone p1_gaps p1_settings p1_spots p1_speeds p1_strengths p1_lookTimes p1_lookSizes p1_lookNumbers = some res) :
    Mv_ l yX5_copyFrom wsX5_copyFrom rmX5_copyFrom D K [.ref (g_t 0), .ref (g_p1 0)] (w_X5_copyFrom K g_t g_p1 t_gapCount t_targetCount t_lookCount t_time t_gone t_gaps t_settings t_spots t_speeds t_strengths t_lookTimes t_lookSizes t_lookNumbers p1_gapCount p1_targetCount p1_lookCount p1_time p1_gone p1_gaps p1_settings p1_spots p1_speeds p1_strengths p1_lookTimes p1_lookSizes p1_lookNumbers) (w_X5_copyFrom K g_t g_p1 res.1 res.2.1 res.2.2.1 res.2.2.2.1 res.2.2.2.2.1 res.2.2.2.2.2.1 res.2.2.2.2.2.2.1 res.2.2.2.2.2.2.2.1 res.2.2.2.2.2.2.2.2.1 res.2.2.2.2.2.2.2.2.2.1 res.2.2.2.2.2.2.2.2.2.2.1 res.2.2.2.2.2.2.2.2.2.2.2.1 res.2.2.2.2.2.2.2.2.2.2.2.2 p1_gapCount p1_targetCount p1_lookCount p1_time p1_gone p1_gaps p1_settings p1_spots p1_speeds p1_strengths p1_lookTimes p1_lookSizes p1_lookNumbers) := by
  refine en_v (cc := cX5_copyFrom) (maxL := 2) (own := RX5) (by decide) rfl rfl (Nat.le_of_ble_eq_true rfl) ?_
  intro p e s m args below meth c A Q H locs ls C0 hP hD hS hl HR
  obtain ⟨⟨hx, hb, hml, hown, hts⟩, hK, -⟩ := id C0
  have hl : lv_has ls 2 [(0, .ref (g_t 0)), (1, .ref (g_p1 0))] := hl
  unfold F_X5_copyFrom at hF
  refine lv_aload_n hx hb dX5_copyFrom_0 rfl (lv_at hl 1 rfl) ?_
  refine va_get (D := D) (ci := 5) (v := .ref (g_p1 1)) (C := RX5) (T := TX5) (N := 13) hx hb hts iw_X5_copyFrom_X5 hown hK hP 9 rfl rfl 0 (by decide) (hts _ fl_X5_copyFrom_9) (fun _ h9 => h9) rfl dX5_copyFrom_1 ?_
  refine lv_iconst (v := 0) hx hb dX5_copyFrom_4 (by decide) ?_
  refine lv_aload_n hx hb dX5_copyFrom_5 rfl (lv_at hl 0 rfl) ?_
  refine va_get (D := D) (ci := 5) (v := .ref (g_t 1)) (C := RX5) (T := TX5) (N := 13) hx hb hts iw_X5_copyFrom_X5 hown hK hP 0 rfl rfl 0 (by decide) (hts _ fl_X5_copyFrom_9) (fun _ h9 => h9) rfl dX5_copyFrom_6 ?_
  refine lv_iconst (v := 0) hx hb dX5_copyFrom_9 (by decide) ?_
  refine lv_iconst (v := 5) hx hb dX5_copyFrom_10 (by decide) ?_
  refine xy_i (f := p1_gaps) (g := t_gaps) hx hb (hml.trans hl.1.symm) hown (hts (.methodLink RX5 39 arraycopyName) (by decide +kernel)) (hts (.native arraycopyName) (by decide +kernel)) (hts (.static arraycopyName) (by decide +kernel)) (hts (.initialized "java/lang/System") (by decide +kernel)) hK hP hD hS 10 1 0 0 rfl rfl rfl rfl (by decide) (by decide) (by decide) (k1 := 0) (k2 := 0) (k3 := 5) (by decide) (by decide) (by decide) (Nat.le_of_ble_eq_true rfl) (Nat.le_of_ble_eq_true rfl) (Nat.le_of_ble_eq_true rfl) (Nat.le_of_ble_eq_true rfl) dX5_copyFrom_11 (fun H locs hP hD hS => ?_)
  have hP : va_P D vwCl (w_X5_copyFrom K g_t g_p1 t_gapCount t_targetCount t_lookCount t_time t_gone (va_cpy p1_gaps t_gaps 0 0 5) t_settings t_spots t_speeds t_strengths t_lookTimes t_lookSizes t_lookNumbers p1_gapCount p1_targetCount p1_lookCount p1_time p1_gone p1_gaps p1_settings p1_spots p1_speeds p1_strengths p1_lookTimes p1_lookSizes p1_lookNumbers) H := hP
  have hD : va_D A (w_X5_copyFrom K g_t g_p1 t_gapCount t_targetCount t_lookCount t_time t_gone (va_cpy p1_gaps t_gaps 0 0 5) t_settings t_spots t_speeds t_strengths t_lookTimes t_lookSizes t_lookNumbers p1_gapCount p1_targetCount p1_lookCount p1_time p1_gone p1_gaps p1_settings p1_spots p1_speeds p1_strengths p1_lookTimes p1_lookSizes p1_lookNumbers) := hD
  refine lv_aload_n hx hb dX5_copyFrom_14 rfl (lv_at hl 1 rfl) ?_
  refine va_get (D := D) (ci := 5) (v := .ref (g_p1 2)) (C := RX5) (T := TX5) (N := 13) hx hb hts iw_X5_copyFrom_X5 hown hK hP 9 rfl rfl 1 (by decide) (hts _ fl_X5_copyFrom_15) (fun _ h9 => h9) rfl dX5_copyFrom_15 ?_
  refine lv_iconst (v := 0) hx hb dX5_copyFrom_18 (by decide) ?_
  refine lv_aload_n hx hb dX5_copyFrom_19 rfl (lv_at hl 0 rfl) ?_
  refine va_get (D := D) (ci := 5) (v := .ref (g_t 2)) (C := RX5) (T := TX5) (N := 13) hx hb hts iw_X5_copyFrom_X5 hown hK hP 0 rfl rfl 1 (by decide) (hts _ fl_X5_copyFrom_15) (fun _ h9 => h9) rfl dX5_copyFrom_20 ?_
  refine lv_iconst (v := 0) hx hb dX5_copyFrom_23 (by decide) ?_
  refine lv_bipush (v := 7) hx hb dX5_copyFrom_24 (by decide) ?_
  refine xy_i (f := p1_settings) (g := t_settings) hx hb (hml.trans hl.1.symm) hown (hts (.methodLink RX5 39 arraycopyName) (by decide +kernel)) (hts (.native arraycopyName) (by decide +kernel)) (hts (.static arraycopyName) (by decide +kernel)) (hts (.initialized "java/lang/System") (by decide +kernel)) hK hP hD hS 11 2 0 0 rfl rfl rfl rfl (by decide) (by decide) (by decide) (k1 := 0) (k2 := 0) (k3 := 7) (by decide) (by decide) (by decide) (Nat.le_of_ble_eq_true rfl) (Nat.le_of_ble_eq_true rfl) (Nat.le_of_ble_eq_true rfl) (Nat.le_of_ble_eq_true rfl) dX5_copyFrom_26 (fun H locs hP hD hS => ?_)
  have hP : va_P D vwCl (w_X5_copyFrom K g_t g_p1 t_gapCount t_targetCount t_lookCount t_time t_gone (va_cpy p1_gaps t_gaps 0 0 5) (va_cpy p1_settings t_settings 0 0 7) t_spots t_speeds t_strengths t_lookTimes t_lookSizes t_lookNumbers p1_gapCount p1_targetCount p1_lookCount p1_time p1_gone p1_gaps p1_settings p1_spots p1_speeds p1_strengths p1_lookTimes p1_lookSizes p1_lookNumbers) H := hP
  have hD : va_D A (w_X5_copyFrom K g_t g_p1 t_gapCount t_targetCount t_lookCount t_time t_gone (va_cpy p1_gaps t_gaps 0 0 5) (va_cpy p1_settings t_settings 0 0 7) t_spots t_speeds t_strengths t_lookTimes t_lookSizes t_lookNumbers p1_gapCount p1_targetCount p1_lookCount p1_time p1_gone p1_gaps p1_settings p1_spots p1_speeds p1_strengths p1_lookTimes p1_lookSizes p1_lookNumbers) := hD
  refine lv_aload_n hx hb dX5_copyFrom_29 rfl (lv_at hl 1 rfl) ?_
  refine va_get (D := D) (ci := 5) (v := .ref (g_p1 3)) (C := RX5) (T := TX5) (N := 13) hx hb hts iw_X5_copyFrom_X5 hown hK hP 9 rfl rfl 2 (by decide) (hts _ fl_X5_copyFrom_18) (fun _ h9 => h9) rfl dX5_copyFrom_30 ?_
  refine lv_iconst (v := 0) hx hb dX5_copyFrom_33 (by decide) ?_
  refine lv_aload_n hx hb dX5_copyFrom_34 rfl (lv_at hl 0 rfl) ?_
  refine va_get (D := D) (ci := 5) (v := .ref (g_t 3)) (C := RX5) (T := TX5) (N := 13) hx hb hts iw_X5_copyFrom_X5 hown hK hP 0 rfl rfl 2 (by decide) (hts _ fl_X5_copyFrom_18) (fun _ h9 => h9) rfl dX5_copyFrom_35 ?_
  refine lv_iconst (v := 0) hx hb dX5_copyFrom_38 (by decide) ?_
  refine lv_bipush (v := 8) hx hb dX5_copyFrom_39 (by decide) ?_
  refine xy_i (f := p1_spots) (g := t_spots) hx hb (hml.trans hl.1.symm) hown (hts (.methodLink RX5 39 arraycopyName) (by decide +kernel)) (hts (.native arraycopyName) (by decide +kernel)) (hts (.static arraycopyName) (by decide +kernel)) (hts (.initialized "java/lang/System") (by decide +kernel)) hK hP hD hS 12 3 0 0 rfl rfl rfl rfl (by decide) (by decide) (by decide) (k1 := 0) (k2 := 0) (k3 := 8) (by decide) (by decide) (by decide) (Nat.le_of_ble_eq_true rfl) (Nat.le_of_ble_eq_true rfl) (Nat.le_of_ble_eq_true rfl) (Nat.le_of_ble_eq_true rfl) dX5_copyFrom_41 (fun H locs hP hD hS => ?_)
  have hP : va_P D vwCl (w_X5_copyFrom K g_t g_p1 t_gapCount t_targetCount t_lookCount t_time t_gone (va_cpy p1_gaps t_gaps 0 0 5) (va_cpy p1_settings t_settings 0 0 7) (va_cpy p1_spots t_spots 0 0 8) t_speeds t_strengths t_lookTimes t_lookSizes t_lookNumbers p1_gapCount p1_targetCount p1_lookCount p1_time p1_gone p1_gaps p1_settings p1_spots p1_speeds p1_strengths p1_lookTimes p1_lookSizes p1_lookNumbers) H := hP
  have hD : va_D A (w_X5_copyFrom K g_t g_p1 t_gapCount t_targetCount t_lookCount t_time t_gone (va_cpy p1_gaps t_gaps 0 0 5) (va_cpy p1_settings t_settings 0 0 7) (va_cpy p1_spots t_spots 0 0 8) t_speeds t_strengths t_lookTimes t_lookSizes t_lookNumbers p1_gapCount p1_targetCount p1_lookCount p1_time p1_gone p1_gaps p1_settings p1_spots p1_speeds p1_strengths p1_lookTimes p1_lookSizes p1_lookNumbers) := hD
  refine lv_aload_n hx hb dX5_copyFrom_44 rfl (lv_at hl 1 rfl) ?_
  refine va_get (D := D) (ci := 5) (v := .ref (g_p1 4)) (C := RX5) (T := TX5) (N := 13) hx hb hts iw_X5_copyFrom_X5 hown hK hP 9 rfl rfl 3 (by decide) (hts _ fl_X5_copyFrom_21) (fun _ h9 => h9) rfl dX5_copyFrom_45 ?_
  refine lv_iconst (v := 0) hx hb dX5_copyFrom_48 (by decide) ?_
  refine lv_aload_n hx hb dX5_copyFrom_49 rfl (lv_at hl 0 rfl) ?_
  refine va_get (D := D) (ci := 5) (v := .ref (g_t 4)) (C := RX5) (T := TX5) (N := 13) hx hb hts iw_X5_copyFrom_X5 hown hK hP 0 rfl rfl 3 (by decide) (hts _ fl_X5_copyFrom_21) (fun _ h9 => h9) rfl dX5_copyFrom_50 ?_
  refine lv_iconst (v := 0) hx hb dX5_copyFrom_53 (by decide) ?_
  refine lv_bipush (v := 8) hx hb dX5_copyFrom_54 (by decide) ?_
  refine xy_i (f := p1_speeds) (g := t_speeds) hx hb (hml.trans hl.1.symm) hown (hts (.methodLink RX5 39 arraycopyName) (by decide +kernel)) (hts (.native arraycopyName) (by decide +kernel)) (hts (.static arraycopyName) (by decide +kernel)) (hts (.initialized "java/lang/System") (by decide +kernel)) hK hP hD hS 13 4 0 0 rfl rfl rfl rfl (by decide) (by decide) (by decide) (k1 := 0) (k2 := 0) (k3 := 8) (by decide) (by decide) (by decide) (Nat.le_of_ble_eq_true rfl) (Nat.le_of_ble_eq_true rfl) (Nat.le_of_ble_eq_true rfl) (Nat.le_of_ble_eq_true rfl) dX5_copyFrom_56 (fun H locs hP hD hS => ?_)
  have hP : va_P D vwCl (w_X5_copyFrom K g_t g_p1 t_gapCount t_targetCount t_lookCount t_time t_gone (va_cpy p1_gaps t_gaps 0 0 5) (va_cpy p1_settings t_settings 0 0 7) (va_cpy p1_spots t_spots 0 0 8) (va_cpy p1_speeds t_speeds 0 0 8) t_strengths t_lookTimes t_lookSizes t_lookNumbers p1_gapCount p1_targetCount p1_lookCount p1_time p1_gone p1_gaps p1_settings p1_spots p1_speeds p1_strengths p1_lookTimes p1_lookSizes p1_lookNumbers) H := hP
  have hD : va_D A (w_X5_copyFrom K g_t g_p1 t_gapCount t_targetCount t_lookCount t_time t_gone (va_cpy p1_gaps t_gaps 0 0 5) (va_cpy p1_settings t_settings 0 0 7) (va_cpy p1_spots t_spots 0 0 8) (va_cpy p1_speeds t_speeds 0 0 8) t_strengths t_lookTimes t_lookSizes t_lookNumbers p1_gapCount p1_targetCount p1_lookCount p1_time p1_gone p1_gaps p1_settings p1_spots p1_speeds p1_strengths p1_lookTimes p1_lookSizes p1_lookNumbers) := hD
  refine lv_aload_n hx hb dX5_copyFrom_59 rfl (lv_at hl 1 rfl) ?_
  refine va_get (D := D) (ci := 5) (v := .ref (g_p1 5)) (C := RX5) (T := TX5) (N := 13) hx hb hts iw_X5_copyFrom_X5 hown hK hP 9 rfl rfl 4 (by decide) (hts _ fl_X5_copyFrom_24) (fun _ h9 => h9) rfl dX5_copyFrom_60 ?_
  refine lv_iconst (v := 0) hx hb dX5_copyFrom_63 (by decide) ?_
  refine lv_aload_n hx hb dX5_copyFrom_64 rfl (lv_at hl 0 rfl) ?_
  refine va_get (D := D) (ci := 5) (v := .ref (g_t 5)) (C := RX5) (T := TX5) (N := 13) hx hb hts iw_X5_copyFrom_X5 hown hK hP 0 rfl rfl 4 (by decide) (hts _ fl_X5_copyFrom_24) (fun _ h9 => h9) rfl dX5_copyFrom_65 ?_
  refine lv_iconst (v := 0) hx hb dX5_copyFrom_68 (by decide) ?_
  refine lv_bipush (v := 8) hx hb dX5_copyFrom_69 (by decide) ?_
  refine xy_i (f := p1_strengths) (g := t_strengths) hx hb (hml.trans hl.1.symm) hown (hts (.methodLink RX5 39 arraycopyName) (by decide +kernel)) (hts (.native arraycopyName) (by decide +kernel)) (hts (.static arraycopyName) (by decide +kernel)) (hts (.initialized "java/lang/System") (by decide +kernel)) hK hP hD hS 14 5 0 0 rfl rfl rfl rfl (by decide) (by decide) (by decide) (k1 := 0) (k2 := 0) (k3 := 8) (by decide) (by decide) (by decide) (Nat.le_of_ble_eq_true rfl) (Nat.le_of_ble_eq_true rfl) (Nat.le_of_ble_eq_true rfl) (Nat.le_of_ble_eq_true rfl) dX5_copyFrom_71 (fun H locs hP hD hS => ?_)
  have hP : va_P D vwCl (w_X5_copyFrom K g_t g_p1 t_gapCount t_targetCount t_lookCount t_time t_gone (va_cpy p1_gaps t_gaps 0 0 5) (va_cpy p1_settings t_settings 0 0 7) (va_cpy p1_spots t_spots 0 0 8) (va_cpy p1_speeds t_speeds 0 0 8) (va_cpy p1_strengths t_strengths 0 0 8) t_lookTimes t_lookSizes t_lookNumbers p1_gapCount p1_targetCount p1_lookCount p1_time p1_gone p1_gaps p1_settings p1_spots p1_speeds p1_strengths p1_lookTimes p1_lookSizes p1_lookNumbers) H := hP
  have hD : va_D A (w_X5_copyFrom K g_t g_p1 t_gapCount t_targetCount t_lookCount t_time t_gone (va_cpy p1_gaps t_gaps 0 0 5) (va_cpy p1_settings t_settings 0 0 7) (va_cpy p1_spots t_spots 0 0 8) (va_cpy p1_speeds t_speeds 0 0 8) (va_cpy p1_strengths t_strengths 0 0 8) t_lookTimes t_lookSizes t_lookNumbers p1_gapCount p1_targetCount p1_lookCount p1_time p1_gone p1_gaps p1_settings p1_spots p1_speeds p1_strengths p1_lookTimes p1_lookSizes p1_lookNumbers) := hD
  refine lv_aload_n hx hb dX5_copyFrom_74 rfl (lv_at hl 1 rfl) ?_
  refine va_get (D := D) (ci := 5) (v := .ref (g_p1 6)) (C := RX5) (T := TX5) (N := 13) hx hb hts iw_X5_copyFrom_X5 hown hK hP 9 rfl rfl 5 (by decide) (hts _ fl_X5_copyFrom_27) (fun _ h9 => h9) rfl dX5_copyFrom_75 ?_
  refine lv_iconst (v := 0) hx hb dX5_copyFrom_78 (by decide) ?_
  refine lv_aload_n hx hb dX5_copyFrom_79 rfl (lv_at hl 0 rfl) ?_
  refine va_get (D := D) (ci := 5) (v := .ref (g_t 6)) (C := RX5) (T := TX5) (N := 13) hx hb hts iw_X5_copyFrom_X5 hown hK hP 0 rfl rfl 5 (by decide) (hts _ fl_X5_copyFrom_27) (fun _ h9 => h9) rfl dX5_copyFrom_80 ?_
  refine lv_iconst (v := 0) hx hb dX5_copyFrom_83 (by decide) ?_
  refine lv_iconst (v := 4) hx hb dX5_copyFrom_84 (by decide) ?_
  refine xy_i (f := p1_lookTimes) (g := t_lookTimes) hx hb (hml.trans hl.1.symm) hown (hts (.methodLink RX5 39 arraycopyName) (by decide +kernel)) (hts (.native arraycopyName) (by decide +kernel)) (hts (.static arraycopyName) (by decide +kernel)) (hts (.initialized "java/lang/System") (by decide +kernel)) hK hP hD hS 15 6 0 0 rfl rfl rfl rfl (by decide) (by decide) (by decide) (k1 := 0) (k2 := 0) (k3 := 4) (by decide) (by decide) (by decide) (Nat.le_of_ble_eq_true rfl) (Nat.le_of_ble_eq_true rfl) (Nat.le_of_ble_eq_true rfl) (Nat.le_of_ble_eq_true rfl) dX5_copyFrom_85 (fun H locs hP hD hS => ?_)
  have hP : va_P D vwCl (w_X5_copyFrom K g_t g_p1 t_gapCount t_targetCount t_lookCount t_time t_gone (va_cpy p1_gaps t_gaps 0 0 5) (va_cpy p1_settings t_settings 0 0 7) (va_cpy p1_spots t_spots 0 0 8) (va_cpy p1_speeds t_speeds 0 0 8) (va_cpy p1_strengths t_strengths 0 0 8) (va_cpy p1_lookTimes t_lookTimes 0 0 4) t_lookSizes t_lookNumbers p1_gapCount p1_targetCount p1_lookCount p1_time p1_gone p1_gaps p1_settings p1_spots p1_speeds p1_strengths p1_lookTimes p1_lookSizes p1_lookNumbers) H := hP
  have hD : va_D A (w_X5_copyFrom K g_t g_p1 t_gapCount t_targetCount t_lookCount t_time t_gone (va_cpy p1_gaps t_gaps 0 0 5) (va_cpy p1_settings t_settings 0 0 7) (va_cpy p1_spots t_spots 0 0 8) (va_cpy p1_speeds t_speeds 0 0 8) (va_cpy p1_strengths t_strengths 0 0 8) (va_cpy p1_lookTimes t_lookTimes 0 0 4) t_lookSizes t_lookNumbers p1_gapCount p1_targetCount p1_lookCount p1_time p1_gone p1_gaps p1_settings p1_spots p1_speeds p1_strengths p1_lookTimes p1_lookSizes p1_lookNumbers) := hD
  refine lv_aload_n hx hb dX5_copyFrom_88 rfl (lv_at hl 1 rfl) ?_
  refine va_get (D := D) (ci := 5) (v := .ref (g_p1 7)) (C := RX5) (T := TX5) (N := 13) hx hb hts iw_X5_copyFrom_X5 hown hK hP 9 rfl rfl 6 (by decide) (hts _ fl_X5_copyFrom_30) (fun _ h9 => h9) rfl dX5_copyFrom_89 ?_
  refine lv_iconst (v := 0) hx hb dX5_copyFrom_92 (by decide) ?_
  refine lv_aload_n hx hb dX5_copyFrom_93 rfl (lv_at hl 0 rfl) ?_
  refine va_get (D := D) (ci := 5) (v := .ref (g_t 7)) (C := RX5) (T := TX5) (N := 13) hx hb hts iw_X5_copyFrom_X5 hown hK hP 0 rfl rfl 6 (by decide) (hts _ fl_X5_copyFrom_30) (fun _ h9 => h9) rfl dX5_copyFrom_94 ?_
  refine lv_iconst (v := 0) hx hb dX5_copyFrom_97 (by decide) ?_
  refine lv_iconst (v := 4) hx hb dX5_copyFrom_98 (by decide) ?_
  refine xy_i (f := p1_lookSizes) (g := t_lookSizes) hx hb (hml.trans hl.1.symm) hown (hts (.methodLink RX5 39 arraycopyName) (by decide +kernel)) (hts (.native arraycopyName) (by decide +kernel)) (hts (.static arraycopyName) (by decide +kernel)) (hts (.initialized "java/lang/System") (by decide +kernel)) hK hP hD hS 16 7 0 0 rfl rfl rfl rfl (by decide) (by decide) (by decide) (k1 := 0) (k2 := 0) (k3 := 4) (by decide) (by decide) (by decide) (Nat.le_of_ble_eq_true rfl) (Nat.le_of_ble_eq_true rfl) (Nat.le_of_ble_eq_true rfl) (Nat.le_of_ble_eq_true rfl) dX5_copyFrom_99 (fun H locs hP hD hS => ?_)
  have hP : va_P D vwCl (w_X5_copyFrom K g_t g_p1 t_gapCount t_targetCount t_lookCount t_time t_gone (va_cpy p1_gaps t_gaps 0 0 5) (va_cpy p1_settings t_settings 0 0 7) (va_cpy p1_spots t_spots 0 0 8) (va_cpy p1_speeds t_speeds 0 0 8) (va_cpy p1_strengths t_strengths 0 0 8) (va_cpy p1_lookTimes t_lookTimes 0 0 4) (va_cpy p1_lookSizes t_lookSizes 0 0 4) t_lookNumbers p1_gapCount p1_targetCount p1_lookCount p1_time p1_gone p1_gaps p1_settings p1_spots p1_speeds p1_strengths p1_lookTimes p1_lookSizes p1_lookNumbers) H := hP
  have hD : va_D A (w_X5_copyFrom K g_t g_p1 t_gapCount t_targetCount t_lookCount t_time t_gone (va_cpy p1_gaps t_gaps 0 0 5) (va_cpy p1_settings t_settings 0 0 7) (va_cpy p1_spots t_spots 0 0 8) (va_cpy p1_speeds t_speeds 0 0 8) (va_cpy p1_strengths t_strengths 0 0 8) (va_cpy p1_lookTimes t_lookTimes 0 0 4) (va_cpy p1_lookSizes t_lookSizes 0 0 4) t_lookNumbers p1_gapCount p1_targetCount p1_lookCount p1_time p1_gone p1_gaps p1_settings p1_spots p1_speeds p1_strengths p1_lookTimes p1_lookSizes p1_lookNumbers) := hD
  refine lv_aload_n hx hb dX5_copyFrom_102 rfl (lv_at hl 1 rfl) ?_
  refine va_get (D := D) (ci := 5) (v := .ref (g_p1 8)) (C := RX5) (T := TX5) (N := 13) hx hb hts iw_X5_copyFrom_X5 hown hK hP 9 rfl rfl 7 (by decide) (hts _ fl_X5_copyFrom_33) (fun _ h9 => h9) rfl dX5_copyFrom_103 ?_
  refine lv_iconst (v := 0) hx hb dX5_copyFrom_106 (by decide) ?_
  refine lv_aload_n hx hb dX5_copyFrom_107 rfl (lv_at hl 0 rfl) ?_
  refine va_get (D := D) (ci := 5) (v := .ref (g_t 8)) (C := RX5) (T := TX5) (N := 13) hx hb hts iw_X5_copyFrom_X5 hown hK hP 0 rfl rfl 7 (by decide) (hts _ fl_X5_copyFrom_33) (fun _ h9 => h9) rfl dX5_copyFrom_108 ?_
  refine lv_iconst (v := 0) hx hb dX5_copyFrom_111 (by decide) ?_
  refine lv_bipush (v := 48) hx hb dX5_copyFrom_112 (by decide) ?_
  refine xy_i (f := p1_lookNumbers) (g := t_lookNumbers) hx hb (hml.trans hl.1.symm) hown (hts (.methodLink RX5 39 arraycopyName) (by decide +kernel)) (hts (.native arraycopyName) (by decide +kernel)) (hts (.static arraycopyName) (by decide +kernel)) (hts (.initialized "java/lang/System") (by decide +kernel)) hK hP hD hS 17 8 0 0 rfl rfl rfl rfl (by decide) (by decide) (by decide) (k1 := 0) (k2 := 0) (k3 := 48) (by decide) (by decide) (by decide) (Nat.le_of_ble_eq_true rfl) (Nat.le_of_ble_eq_true rfl) (Nat.le_of_ble_eq_true rfl) (Nat.le_of_ble_eq_true rfl) dX5_copyFrom_114 (fun H locs hP hD hS => ?_)
  have hP : va_P D vwCl (w_X5_copyFrom K g_t g_p1 t_gapCount t_targetCount t_lookCount t_time t_gone (va_cpy p1_gaps t_gaps 0 0 5) (va_cpy p1_settings t_settings 0 0 7) (va_cpy p1_spots t_spots 0 0 8) (va_cpy p1_speeds t_speeds 0 0 8) (va_cpy p1_strengths t_strengths 0 0 8) (va_cpy p1_lookTimes t_lookTimes 0 0 4) (va_cpy p1_lookSizes t_lookSizes 0 0 4) (va_cpy p1_lookNumbers t_lookNumbers 0 0 48) p1_gapCount p1_targetCount p1_lookCount p1_time p1_gone p1_gaps p1_settings p1_spots p1_speeds p1_strengths p1_lookTimes p1_lookSizes p1_lookNumbers) H := hP
  have hD : va_D A (w_X5_copyFrom K g_t g_p1 t_gapCount t_targetCount t_lookCount t_time t_gone (va_cpy p1_gaps t_gaps 0 0 5) (va_cpy p1_settings t_settings 0 0 7) (va_cpy p1_spots t_spots 0 0 8) (va_cpy p1_speeds t_speeds 0 0 8) (va_cpy p1_strengths t_strengths 0 0 8) (va_cpy p1_lookTimes t_lookTimes 0 0 4) (va_cpy p1_lookSizes t_lookSizes 0 0 4) (va_cpy p1_lookNumbers t_lookNumbers 0 0 48) p1_gapCount p1_targetCount p1_lookCount p1_time p1_gone p1_gaps p1_settings p1_spots p1_speeds p1_strengths p1_lookTimes p1_lookSizes p1_lookNumbers) := hD
  refine lv_aload_n hx hb dX5_copyFrom_117 rfl (lv_at hl 0 rfl) ?_
  refine lv_aload_n hx hb dX5_copyFrom_118 rfl (lv_at hl 1 rfl) ?_
  refine va_get (D := D) (ci := 5) (v := .int p1_gapCount) (C := RX5) (T := TX5) (N := 13) hx hb hts iw_X5_copyFrom_X5 hown hK hP 9 rfl rfl 8 (by decide) (hts _ fl_X5_copyFrom_45) (fun _ h9 => h9) rfl dX5_copyFrom_119 ?_
  refine va_put (D := D) (ci := 5) (v := .int p1_gapCount) (ty := .int) (C := RX5) (T := TX5) (N := 13) hx hb hts iw_X5_copyFrom_X5 tyX5 tyX5_ok nmX5 hown hK hP hD hS 0 rfl rfl 8 (by decide) (hts _ fl_X5_copyFrom_45) (fun _ h9 => h9) rfl (by decide +kernel) rfl rfl (Nat.le_of_ble_eq_true rfl) dX5_copyFrom_122 (fun H locs hP hD hS => ?_)
  have hP : va_P D vwCl (w_X5_copyFrom K g_t g_p1 p1_gapCount t_targetCount t_lookCount t_time t_gone (va_cpy p1_gaps t_gaps 0 0 5) (va_cpy p1_settings t_settings 0 0 7) (va_cpy p1_spots t_spots 0 0 8) (va_cpy p1_speeds t_speeds 0 0 8) (va_cpy p1_strengths t_strengths 0 0 8) (va_cpy p1_lookTimes t_lookTimes 0 0 4) (va_cpy p1_lookSizes t_lookSizes 0 0 4) (va_cpy p1_lookNumbers t_lookNumbers 0 0 48) p1_gapCount p1_targetCount p1_lookCount p1_time p1_gone p1_gaps p1_settings p1_spots p1_speeds p1_strengths p1_lookTimes p1_lookSizes p1_lookNumbers) H := hP
  have hD : va_D A (w_X5_copyFrom K g_t g_p1 p1_gapCount t_targetCount t_lookCount t_time t_gone (va_cpy p1_gaps t_gaps 0 0 5) (va_cpy p1_settings t_settings 0 0 7) (va_cpy p1_spots t_spots 0 0 8) (va_cpy p1_speeds t_speeds 0 0 8) (va_cpy p1_strengths t_strengths 0 0 8) (va_cpy p1_lookTimes t_lookTimes 0 0 4) (va_cpy p1_lookSizes t_lookSizes 0 0 4) (va_cpy p1_lookNumbers t_lookNumbers 0 0 48) p1_gapCount p1_targetCount p1_lookCount p1_time p1_gone p1_gaps p1_settings p1_spots p1_speeds p1_strengths p1_lookTimes p1_lookSizes p1_lookNumbers) := hD
  refine lv_aload_n hx hb dX5_copyFrom_125 rfl (lv_at hl 0 rfl) ?_
  refine lv_aload_n hx hb dX5_copyFrom_126 rfl (lv_at hl 1 rfl) ?_
  refine va_get (D := D) (ci := 5) (v := .int p1_targetCount) (C := RX5) (T := TX5) (N := 13) hx hb hts iw_X5_copyFrom_X5 hown hK hP 9 rfl rfl 9 (by decide) (hts _ fl_X5_copyFrom_49) (fun _ h9 => h9) rfl dX5_copyFrom_127 ?_
  refine va_put (D := D) (ci := 5) (v := .int p1_targetCount) (ty := .int) (C := RX5) (T := TX5) (N := 13) hx hb hts iw_X5_copyFrom_X5 tyX5 tyX5_ok nmX5 hown hK hP hD hS 0 rfl rfl 9 (by decide) (hts _ fl_X5_copyFrom_49) (fun _ h9 => h9) rfl (by decide +kernel) rfl rfl (Nat.le_of_ble_eq_true rfl) dX5_copyFrom_130 (fun H locs hP hD hS => ?_)
  have hP : va_P D vwCl (w_X5_copyFrom K g_t g_p1 p1_gapCount p1_targetCount t_lookCount t_time t_gone (va_cpy p1_gaps t_gaps 0 0 5) (va_cpy p1_settings t_settings 0 0 7) (va_cpy p1_spots t_spots 0 0 8) (va_cpy p1_speeds t_speeds 0 0 8) (va_cpy p1_strengths t_strengths 0 0 8) (va_cpy p1_lookTimes t_lookTimes 0 0 4) (va_cpy p1_lookSizes t_lookSizes 0 0 4) (va_cpy p1_lookNumbers t_lookNumbers 0 0 48) p1_gapCount p1_targetCount p1_lookCount p1_time p1_gone p1_gaps p1_settings p1_spots p1_speeds p1_strengths p1_lookTimes p1_lookSizes p1_lookNumbers) H := hP
  have hD : va_D A (w_X5_copyFrom K g_t g_p1 p1_gapCount p1_targetCount t_lookCount t_time t_gone (va_cpy p1_gaps t_gaps 0 0 5) (va_cpy p1_settings t_settings 0 0 7) (va_cpy p1_spots t_spots 0 0 8) (va_cpy p1_speeds t_speeds 0 0 8) (va_cpy p1_strengths t_strengths 0 0 8) (va_cpy p1_lookTimes t_lookTimes 0 0 4) (va_cpy p1_lookSizes t_lookSizes 0 0 4) (va_cpy p1_lookNumbers t_lookNumbers 0 0 48) p1_gapCount p1_targetCount p1_lookCount p1_time p1_gone p1_gaps p1_settings p1_spots p1_speeds p1_strengths p1_lookTimes p1_lookSizes p1_lookNumbers) := hD
  refine lv_aload_n hx hb dX5_copyFrom_133 rfl (lv_at hl 0 rfl) ?_
  refine lv_aload_n hx hb dX5_copyFrom_134 rfl (lv_at hl 1 rfl) ?_
  refine va_get (D := D) (ci := 5) (v := .int p1_lookCount) (C := RX5) (T := TX5) (N := 13) hx hb hts iw_X5_copyFrom_X5 hown hK hP 9 rfl rfl 10 (by decide) (hts _ fl_X5_copyFrom_52) (fun _ h9 => h9) rfl dX5_copyFrom_135 ?_
  refine va_put (D := D) (ci := 5) (v := .int p1_lookCount) (ty := .int) (C := RX5) (T := TX5) (N := 13) hx hb hts iw_X5_copyFrom_X5 tyX5 tyX5_ok nmX5 hown hK hP hD hS 0 rfl rfl 10 (by decide) (hts _ fl_X5_copyFrom_52) (fun _ h9 => h9) rfl (by decide +kernel) rfl rfl (Nat.le_of_ble_eq_true rfl) dX5_copyFrom_138 (fun H locs hP hD hS => ?_)
  have hP : va_P D vwCl (w_X5_copyFrom K g_t g_p1 p1_gapCount p1_targetCount p1_lookCount t_time t_gone (va_cpy p1_gaps t_gaps 0 0 5) (va_cpy p1_settings t_settings 0 0 7) (va_cpy p1_spots t_spots 0 0 8) (va_cpy p1_speeds t_speeds 0 0 8) (va_cpy p1_strengths t_strengths 0 0 8) (va_cpy p1_lookTimes t_lookTimes 0 0 4) (va_cpy p1_lookSizes t_lookSizes 0 0 4) (va_cpy p1_lookNumbers t_lookNumbers 0 0 48) p1_gapCount p1_targetCount p1_lookCount p1_time p1_gone p1_gaps p1_settings p1_spots p1_speeds p1_strengths p1_lookTimes p1_lookSizes p1_lookNumbers) H := hP
  have hD : va_D A (w_X5_copyFrom K g_t g_p1 p1_gapCount p1_targetCount p1_lookCount t_time t_gone (va_cpy p1_gaps t_gaps 0 0 5) (va_cpy p1_settings t_settings 0 0 7) (va_cpy p1_spots t_spots 0 0 8) (va_cpy p1_speeds t_speeds 0 0 8) (va_cpy p1_strengths t_strengths 0 0 8) (va_cpy p1_lookTimes t_lookTimes 0 0 4) (va_cpy p1_lookSizes t_lookSizes 0 0 4) (va_cpy p1_lookNumbers t_lookNumbers 0 0 48) p1_gapCount p1_targetCount p1_lookCount p1_time p1_gone p1_gaps p1_settings p1_spots p1_speeds p1_strengths p1_lookTimes p1_lookSizes p1_lookNumbers) := hD
  refine lv_aload_n hx hb dX5_copyFrom_141 rfl (lv_at hl 0 rfl) ?_
  refine lv_aload_n hx hb dX5_copyFrom_142 rfl (lv_at hl 1 rfl) ?_
  refine va_get (D := D) (ci := 5) (v := .int p1_time) (C := RX5) (T := TX5) (N := 13) hx hb hts iw_X5_copyFrom_X5 hown hK hP 9 rfl rfl 11 (by decide) (hts _ fl_X5_copyFrom_55) (fun _ h9 => h9) rfl dX5_copyFrom_143 ?_
  refine va_put (D := D) (ci := 5) (v := .int p1_time) (ty := .int) (C := RX5) (T := TX5) (N := 13) hx hb hts iw_X5_copyFrom_X5 tyX5 tyX5_ok nmX5 hown hK hP hD hS 0 rfl rfl 11 (by decide) (hts _ fl_X5_copyFrom_55) (fun _ h9 => h9) rfl (by decide +kernel) rfl rfl (Nat.le_of_ble_eq_true rfl) dX5_copyFrom_146 (fun H locs hP hD hS => ?_)
  have hP : va_P D vwCl (w_X5_copyFrom K g_t g_p1 p1_gapCount p1_targetCount p1_lookCount p1_time t_gone (va_cpy p1_gaps t_gaps 0 0 5) (va_cpy p1_settings t_settings 0 0 7) (va_cpy p1_spots t_spots 0 0 8) (va_cpy p1_speeds t_speeds 0 0 8) (va_cpy p1_strengths t_strengths 0 0 8) (va_cpy p1_lookTimes t_lookTimes 0 0 4) (va_cpy p1_lookSizes t_lookSizes 0 0 4) (va_cpy p1_lookNumbers t_lookNumbers 0 0 48) p1_gapCount p1_targetCount p1_lookCount p1_time p1_gone p1_gaps p1_settings p1_spots p1_speeds p1_strengths p1_lookTimes p1_lookSizes p1_lookNumbers) H := hP
  have hD : va_D A (w_X5_copyFrom K g_t g_p1 p1_gapCount p1_targetCount p1_lookCount p1_time t_gone (va_cpy p1_gaps t_gaps 0 0 5) (va_cpy p1_settings t_settings 0 0 7) (va_cpy p1_spots t_spots 0 0 8) (va_cpy p1_speeds t_speeds 0 0 8) (va_cpy p1_strengths t_strengths 0 0 8) (va_cpy p1_lookTimes t_lookTimes 0 0 4) (va_cpy p1_lookSizes t_lookSizes 0 0 4) (va_cpy p1_lookNumbers t_lookNumbers 0 0 48) p1_gapCount p1_targetCount p1_lookCount p1_time p1_gone p1_gaps p1_settings p1_spots p1_speeds p1_strengths p1_lookTimes p1_lookSizes p1_lookNumbers) := hD
  refine lv_aload_n hx hb dX5_copyFrom_149 rfl (lv_at hl 0 rfl) ?_
  refine lv_aload_n hx hb dX5_copyFrom_150 rfl (lv_at hl 1 rfl) ?_
  refine va_get (D := D) (ci := 5) (v := .int p1_gone) (C := RX5) (T := TX5) (N := 13) hx hb hts iw_X5_copyFrom_X5 hown hK hP 9 rfl rfl 12 (by decide) (hts _ fl_X5_copyFrom_58) (fun _ h9 => h9) rfl dX5_copyFrom_151 ?_
  refine va_put (D := D) (ci := 5) (v := .int p1_gone) (ty := .int) (C := RX5) (T := TX5) (N := 13) hx hb hts iw_X5_copyFrom_X5 tyX5 tyX5_ok nmX5 hown hK hP hD hS 0 rfl rfl 12 (by decide) (hts _ fl_X5_copyFrom_58) (fun _ h9 => h9) rfl (by decide +kernel) rfl rfl (Nat.le_of_ble_eq_true rfl) dX5_copyFrom_154 (fun H locs hP hD hS => ?_)
  have hP : va_P D vwCl (w_X5_copyFrom K g_t g_p1 p1_gapCount p1_targetCount p1_lookCount p1_time p1_gone (va_cpy p1_gaps t_gaps 0 0 5) (va_cpy p1_settings t_settings 0 0 7) (va_cpy p1_spots t_spots 0 0 8) (va_cpy p1_speeds t_speeds 0 0 8) (va_cpy p1_strengths t_strengths 0 0 8) (va_cpy p1_lookTimes t_lookTimes 0 0 4) (va_cpy p1_lookSizes t_lookSizes 0 0 4) (va_cpy p1_lookNumbers t_lookNumbers 0 0 48) p1_gapCount p1_targetCount p1_lookCount p1_time p1_gone p1_gaps p1_settings p1_spots p1_speeds p1_strengths p1_lookTimes p1_lookSizes p1_lookNumbers) H := hP
  have hD : va_D A (w_X5_copyFrom K g_t g_p1 p1_gapCount p1_targetCount p1_lookCount p1_time p1_gone (va_cpy p1_gaps t_gaps 0 0 5) (va_cpy p1_settings t_settings 0 0 7) (va_cpy p1_spots t_spots 0 0 8) (va_cpy p1_speeds t_speeds 0 0 8) (va_cpy p1_strengths t_strengths 0 0 8) (va_cpy p1_lookTimes t_lookTimes 0 0 4) (va_cpy p1_lookSizes t_lookSizes 0 0 4) (va_cpy p1_lookNumbers t_lookNumbers 0 0 48) p1_gapCount p1_targetCount p1_lookCount p1_time p1_gone p1_gaps p1_settings p1_spots p1_speeds p1_strengths p1_lookTimes p1_lookSizes p1_lookNumbers) := hD
  obtain rfl := Option.some.inj hF
  exact HR 157 H locs ls dX5_copyFrom_157 hP hD hS

/-! StaggerRadar.Text.copyFrom(LStaggerRadar$Text;)V -/
abbrev rmX8_copyFrom : Room := { frames := 1, cells := 0, slots := 0, locals := 60 }
theorem fl_X8_copyFrom_9 : Cond.fieldLink RX8 9 "StaggerRadar$Text" "bytes" "[I" ∈ wsX8_copyFrom := by decide +kernel
theorem fl_X8_copyFrom_15 : Cond.fieldLink RX8 15 "StaggerRadar$Text" "faultPlace" "I" ∈ wsX8_copyFrom := by decide +kernel
theorem fl_X8_copyFrom_19 : Cond.fieldLink RX8 19 "StaggerRadar$Text" "size" "I" ∈ wsX8_copyFrom := by decide +kernel
theorem fl_X8_copyFrom_28 : Cond.fieldLink RX8 28 "StaggerRadar$Text" "faultKind" "I" ∈ wsX8_copyFrom := by decide +kernel
theorem iw_X8_copyFrom_X8 : ∀ w ∈ u_ws RX8 TX8 4, w ∈ wsX8_copyFrom := by decide +kernel
abbrev w_X8_copyFrom (K : Nat → ClassId) (g_t : Nat → Nat) (g_p1 : Nat → Nat) (t_size : Int32) (t_faultKind : Int32) (t_faultPlace : Int32) (t_bytes : Nat → Int32) (p1_size : Int32) (p1_faultKind : Int32) (p1_faultPlace : Int32) (p1_bytes : Nat → Int32) : va_W := [((g_t 0), .inr (7, [.ref (g_t 1), .int t_size, .int t_faultKind, .int t_faultPlace])), ((g_t 1), .inl (K 0, 400, .inl t_bytes)), ((g_p1 0), .inr (7, [.ref (g_p1 1), .int p1_size, .int p1_faultKind, .int p1_faultPlace])), ((g_p1 1), .inl (K 0, 400, .inl p1_bytes))]
def F_X8_copyFrom (t_size : Int32) (t_faultKind : Int32) (t_faultPlace : Int32) (t_bytes : Nat → Int32) (p1_size : Int32) (p1_faultKind : Int32) (p1_faultPlace : Int32) (p1_bytes : Nat → Int32) : Option (Int32 × Int32 × Int32 × (Nat → Int32)) :=
  some (p1_size, p1_faultKind, p1_faultPlace, (va_cpy p1_bytes t_bytes 0 0 400))
set_option maxHeartbeats 4000000 in
set_option maxRecDepth 100000 in
theorem c_X8_copyFrom (l : Launch) (D : va_G) (K : Nat → ClassId) (g_t : Nat → Nat) (g_p1 : Nat → Nat) (t_size : Int32) (t_faultKind : Int32) (t_faultPlace : Int32) (t_bytes : Nat → Int32) (p1_size : Int32) (p1_faultKind : Int32) (p1_faultPlace : Int32) (p1_bytes : Nat → Int32) (res : Int32 × Int32 × Int32 × (Nat → Int32)) (hF : F_X8_copyFrom t_size t_faultKind t_faultPlace t_bytes p1_size p1_faultKind p1_faultPlace p1_bytes = some res) :
    Mv_ l yX8_copyFrom wsX8_copyFrom rmX8_copyFrom D K [.ref (g_t 0), .ref (g_p1 0)] (w_X8_copyFrom K g_t g_p1 t_size t_faultKind t_faultPlace t_bytes p1_size p1_faultKind p1_faultPlace p1_bytes) (w_X8_copyFrom K g_t g_p1 res.1 res.2.1 res.2.2.1 res.2.2.2 p1_size p1_faultKind p1_faultPlace p1_bytes) := by
  refine en_v (cc := cX8_copyFrom) (maxL := 2) (own := RX8) (by decide) rfl rfl (Nat.le_of_ble_eq_true rfl) ?_
  intro p e s m args below meth c A Q H locs ls C0 hP hD hS hl HR
  obtain ⟨⟨hx, hb, hml, hown, hts⟩, hK, -⟩ := id C0
  have hl : lv_has ls 2 [(0, .ref (g_t 0)), (1, .ref (g_p1 0))] := hl
  unfold F_X8_copyFrom at hF
  refine lv_aload_n hx hb dX8_copyFrom_0 rfl (lv_at hl 1 rfl) ?_
  refine va_get (D := D) (ci := 7) (v := .ref (g_p1 1)) (C := RX8) (T := TX8) (N := 4) hx hb hts iw_X8_copyFrom_X8 hown hK hP 2 rfl rfl 0 (by decide) (hts _ fl_X8_copyFrom_9) (fun _ h9 => h9) rfl dX8_copyFrom_1 ?_
  refine lv_iconst (v := 0) hx hb dX8_copyFrom_4 (by decide) ?_
  refine lv_aload_n hx hb dX8_copyFrom_5 rfl (lv_at hl 0 rfl) ?_
  refine va_get (D := D) (ci := 7) (v := .ref (g_t 1)) (C := RX8) (T := TX8) (N := 4) hx hb hts iw_X8_copyFrom_X8 hown hK hP 0 rfl rfl 0 (by decide) (hts _ fl_X8_copyFrom_9) (fun _ h9 => h9) rfl dX8_copyFrom_6 ?_
  refine lv_iconst (v := 0) hx hb dX8_copyFrom_9 (by decide) ?_
  refine lv_sipush (v := 400) hx hb dX8_copyFrom_10 (by decide) ?_
  refine xy_i (f := p1_bytes) (g := t_bytes) hx hb (hml.trans hl.1.symm) hown (hts (.methodLink RX8 22 arraycopyName) (by decide +kernel)) (hts (.native arraycopyName) (by decide +kernel)) (hts (.static arraycopyName) (by decide +kernel)) (hts (.initialized "java/lang/System") (by decide +kernel)) hK hP hD hS 3 1 0 0 rfl rfl rfl rfl (by decide) (by decide) (by decide) (k1 := 0) (k2 := 0) (k3 := 400) (by decide) (by decide) (by decide) (Nat.le_of_ble_eq_true rfl) (Nat.le_of_ble_eq_true rfl) (Nat.le_of_ble_eq_true rfl) (Nat.le_of_ble_eq_true rfl) dX8_copyFrom_13 (fun H locs hP hD hS => ?_)
  have hP : va_P D vwCl (w_X8_copyFrom K g_t g_p1 t_size t_faultKind t_faultPlace (va_cpy p1_bytes t_bytes 0 0 400) p1_size p1_faultKind p1_faultPlace p1_bytes) H := hP
  have hD : va_D A (w_X8_copyFrom K g_t g_p1 t_size t_faultKind t_faultPlace (va_cpy p1_bytes t_bytes 0 0 400) p1_size p1_faultKind p1_faultPlace p1_bytes) := hD
  refine lv_aload_n hx hb dX8_copyFrom_16 rfl (lv_at hl 0 rfl) ?_
  refine lv_aload_n hx hb dX8_copyFrom_17 rfl (lv_at hl 1 rfl) ?_
  refine va_get (D := D) (ci := 7) (v := .int p1_size) (C := RX8) (T := TX8) (N := 4) hx hb hts iw_X8_copyFrom_X8 hown hK hP 2 rfl rfl 1 (by decide) (hts _ fl_X8_copyFrom_19) (fun _ h9 => h9) rfl dX8_copyFrom_18 ?_
  refine va_put (D := D) (ci := 7) (v := .int p1_size) (ty := .int) (C := RX8) (T := TX8) (N := 4) hx hb hts iw_X8_copyFrom_X8 tyX8 tyX8_ok nmX8 hown hK hP hD hS 0 rfl rfl 1 (by decide) (hts _ fl_X8_copyFrom_19) (fun _ h9 => h9) rfl (by decide +kernel) rfl rfl (Nat.le_of_ble_eq_true rfl) dX8_copyFrom_21 (fun H locs hP hD hS => ?_)
  have hP : va_P D vwCl (w_X8_copyFrom K g_t g_p1 p1_size t_faultKind t_faultPlace (va_cpy p1_bytes t_bytes 0 0 400) p1_size p1_faultKind p1_faultPlace p1_bytes) H := hP
  have hD : va_D A (w_X8_copyFrom K g_t g_p1 p1_size t_faultKind t_faultPlace (va_cpy p1_bytes t_bytes 0 0 400) p1_size p1_faultKind p1_faultPlace p1_bytes) := hD
  refine lv_aload_n hx hb dX8_copyFrom_24 rfl (lv_at hl 0 rfl) ?_
  refine lv_aload_n hx hb dX8_copyFrom_25 rfl (lv_at hl 1 rfl) ?_
  refine va_get (D := D) (ci := 7) (v := .int p1_faultKind) (C := RX8) (T := TX8) (N := 4) hx hb hts iw_X8_copyFrom_X8 hown hK hP 2 rfl rfl 2 (by decide) (hts _ fl_X8_copyFrom_28) (fun _ h9 => h9) rfl dX8_copyFrom_26 ?_
  refine va_put (D := D) (ci := 7) (v := .int p1_faultKind) (ty := .int) (C := RX8) (T := TX8) (N := 4) hx hb hts iw_X8_copyFrom_X8 tyX8 tyX8_ok nmX8 hown hK hP hD hS 0 rfl rfl 2 (by decide) (hts _ fl_X8_copyFrom_28) (fun _ h9 => h9) rfl (by decide +kernel) rfl rfl (Nat.le_of_ble_eq_true rfl) dX8_copyFrom_29 (fun H locs hP hD hS => ?_)
  have hP : va_P D vwCl (w_X8_copyFrom K g_t g_p1 p1_size p1_faultKind t_faultPlace (va_cpy p1_bytes t_bytes 0 0 400) p1_size p1_faultKind p1_faultPlace p1_bytes) H := hP
  have hD : va_D A (w_X8_copyFrom K g_t g_p1 p1_size p1_faultKind t_faultPlace (va_cpy p1_bytes t_bytes 0 0 400) p1_size p1_faultKind p1_faultPlace p1_bytes) := hD
  refine lv_aload_n hx hb dX8_copyFrom_32 rfl (lv_at hl 0 rfl) ?_
  refine lv_aload_n hx hb dX8_copyFrom_33 rfl (lv_at hl 1 rfl) ?_
  refine va_get (D := D) (ci := 7) (v := .int p1_faultPlace) (C := RX8) (T := TX8) (N := 4) hx hb hts iw_X8_copyFrom_X8 hown hK hP 2 rfl rfl 3 (by decide) (hts _ fl_X8_copyFrom_15) (fun _ h9 => h9) rfl dX8_copyFrom_34 ?_
  refine va_put (D := D) (ci := 7) (v := .int p1_faultPlace) (ty := .int) (C := RX8) (T := TX8) (N := 4) hx hb hts iw_X8_copyFrom_X8 tyX8 tyX8_ok nmX8 hown hK hP hD hS 0 rfl rfl 3 (by decide) (hts _ fl_X8_copyFrom_15) (fun _ h9 => h9) rfl (by decide +kernel) rfl rfl (Nat.le_of_ble_eq_true rfl) dX8_copyFrom_37 (fun H locs hP hD hS => ?_)
  have hP : va_P D vwCl (w_X8_copyFrom K g_t g_p1 p1_size p1_faultKind p1_faultPlace (va_cpy p1_bytes t_bytes 0 0 400) p1_size p1_faultKind p1_faultPlace p1_bytes) H := hP
  have hD : va_D A (w_X8_copyFrom K g_t g_p1 p1_size p1_faultKind p1_faultPlace (va_cpy p1_bytes t_bytes 0 0 400) p1_size p1_faultKind p1_faultPlace p1_bytes) := hD
  obtain rfl := Option.some.inj hF
  exact HR 40 H locs ls dX8_copyFrom_40 hP hD hS

/-! StaggerRadar.History.forget()V -/
abbrev rmX4_forget : Room := { frames := 0, cells := 0, slots := 0, locals := 0 }
theorem fl_X4_forget_18 : Cond.fieldLink RX4 18 "StaggerRadar$History" "size" "I" ∈ wsX4_forget := by decide +kernel
theorem iw_X4_forget_X4 : ∀ w ∈ u_ws RX4 TX4 3, w ∈ wsX4_forget := by decide +kernel
abbrev w_X4_forget (K : Nat → ClassId) (g_t : Nat → Nat) (t_oldest : Int32) (t_size : Int32) : va_W := [((g_t 0), .inr (4, [.ref (g_t 1), .int t_oldest, .int t_size]))]
def F_X4_forget (t_size : Int32) : Option (Int32) :=
  some (0 : Int32)
set_option maxHeartbeats 4000000 in
set_option maxRecDepth 100000 in
theorem c_X4_forget (l : Launch) (D : va_G) (K : Nat → ClassId) (g_t : Nat → Nat) (t_oldest : Int32) (t_size : Int32) (res : Int32) (hF : F_X4_forget t_size = some res) :
    Mv_ l yX4_forget wsX4_forget rmX4_forget D K [.ref (g_t 0)] (w_X4_forget K g_t t_oldest t_size) (w_X4_forget K g_t t_oldest res) := by
  refine en_v (cc := cX4_forget) (maxL := 1) (own := RX4) (by decide) rfl rfl (Nat.le_of_ble_eq_true rfl) ?_
  intro p e s m args below meth c A Q H locs ls C0 hP hD hS hl HR
  obtain ⟨⟨hx, hb, hml, hown, hts⟩, hK, -⟩ := id C0
  have hl : lv_has ls 1 [(0, .ref (g_t 0))] := hl
  unfold F_X4_forget at hF
  refine lv_aload_n hx hb dX4_forget_0 rfl (lv_at hl 0 rfl) ?_
  refine lv_iconst (v := 0) hx hb dX4_forget_1 (by decide) ?_
  refine va_put (D := D) (ci := 4) (v := .int (0 : Int32)) (ty := .int) (C := RX4) (T := TX4) (N := 3) hx hb hts iw_X4_forget_X4 tyX4 tyX4_ok nmX4 hown hK hP hD hS 0 rfl rfl 2 (by decide) (hts _ fl_X4_forget_18) (fun _ h9 => h9) rfl (by decide +kernel) rfl rfl (Nat.le_of_ble_eq_true rfl) dX4_forget_2 (fun H locs hP hD hS => ?_)
  have hP : va_P D vwCl (w_X4_forget K g_t t_oldest (0 : Int32)) H := hP
  have hD : va_D A (w_X4_forget K g_t t_oldest (0 : Int32)) := hD
  obtain rfl := Option.some.inj hF
  exact HR 5 H locs ls dX4_forget_5 hP hD hS

/-! StaggerRadar.Radar.hasGap(I)Z -/
abbrev rmX5_hasGap : Room := { frames := 0, cells := 0, slots := 0, locals := 0 }
theorem fl_X5_hasGap_45 : Cond.fieldLink RX5 45 "StaggerRadar$Radar" "gapCount" "I" ∈ wsX5_hasGap := by decide +kernel
theorem iw_X5_hasGap_X5 : ∀ w ∈ u_ws RX5 TX5 13, w ∈ wsX5_hasGap := by decide +kernel
abbrev w_X5_hasGap (K : Nat → ClassId) (g_t : Nat → Nat) (t_gapCount : Int32) (t_targetCount : Int32) (t_lookCount : Int32) (t_time : Int32) (t_gone : Int32) : va_W := [((g_t 0), .inr (5, [.ref (g_t 1), .ref (g_t 2), .ref (g_t 3), .ref (g_t 4), .ref (g_t 5), .ref (g_t 6), .ref (g_t 7), .ref (g_t 8), .int t_gapCount, .int t_targetCount, .int t_lookCount, .int t_time, .int t_gone]))]
def F_X5_hasGap (t_gapCount : Int32) (x1 : Int32) : Option (Int32) :=
  if x1 < (0 : Int32) then (some (0 : Int32)) else (if t_gapCount ≤ x1 then (some (0 : Int32)) else (some (1 : Int32)))
set_option maxHeartbeats 4000000 in
set_option maxRecDepth 100000 in
theorem c_X5_hasGap (l : Launch) (D : va_G) (K : Nat → ClassId) (g_t : Nat → Nat) (t_gapCount : Int32) (t_targetCount : Int32) (t_lookCount : Int32) (t_time : Int32) (t_gone : Int32) (x1 : Int32) (res : Int32) (hF : F_X5_hasGap t_gapCount x1 = some res) :
    Mi_ l yX5_hasGap wsX5_hasGap rmX5_hasGap D K [.ref (g_t 0), .int x1] (w_X5_hasGap K g_t t_gapCount t_targetCount t_lookCount t_time t_gone) (w_X5_hasGap K g_t t_gapCount t_targetCount t_lookCount t_time t_gone) (res) := by
  refine en_z (cc := cX5_hasGap) (maxL := 2) (own := RX5) (by decide) rfl rfl (Nat.le_of_ble_eq_true rfl) ?_
  intro p e s m args below meth c A Q H locs ls C0 hP hD hS hl HR
  obtain ⟨⟨hx, hb, hml, hown, hts⟩, hK, -⟩ := id C0
  have hl : lv_has ls 2 [(0, .ref (g_t 0)), (1, .int x1)] := hl
  unfold F_X5_hasGap at hF
  refine lv_iload_n hx hb dX5_hasGap_0 rfl (lv_at hl 1 rfl) ?_
  refine lv_if_lt (tgt := 16) hx hb dX5_hasGap_1 (by decide) (fun c_1 => ?_) (fun c_1 => ?_)
  · have hF := it_pos c_1 hF
    refine lv_iconst (v := 0) hx hb dX5_hasGap_16 (by decide) ?_
    obtain rfl := Option.some.inj hF
    exact HR 17 H locs ls dX5_hasGap_17 narrow_b0 hP hD hS
  · have hF := it_neg c_1 hF
    refine lv_iload_n hx hb dX5_hasGap_4 rfl (lv_at hl 1 rfl) ?_
    refine lv_aload_n hx hb dX5_hasGap_5 rfl (lv_at hl 0 rfl) ?_
    refine va_get (D := D) (ci := 5) (v := .int t_gapCount) (C := RX5) (T := TX5) (N := 13) hx hb hts iw_X5_hasGap_X5 hown hK hP 0 rfl rfl 8 (by decide) (hts _ fl_X5_hasGap_45) (fun _ h9 => h9) rfl dX5_hasGap_6 ?_
    refine lv_icmp_ge (tgt := 16) hx hb dX5_hasGap_9 (by decide) (fun c_2 => ?_) (fun c_2 => ?_)
    · have hF := it_pos c_2 hF
      refine lv_iconst (v := 0) hx hb dX5_hasGap_16 (by decide) ?_
      obtain rfl := Option.some.inj hF
      exact HR 17 H locs ls dX5_hasGap_17 narrow_b0 hP hD hS
    · have hF := it_neg c_2 hF
      refine lv_iconst (v := 1) hx hb dX5_hasGap_12 (by decide) ?_
      refine lv_goto (tgt := 17) hx hb dX5_hasGap_13 (by decide) ?_
      obtain rfl := Option.some.inj hF
      exact HR 17 H locs ls dX5_hasGap_17 narrow_b1 hP hD hS

/-! StaggerRadar.Echoes.listen(LStaggerRadar$Radar;)V -/
abbrev rmX3_listen : Room := { frames := 4, cells := 0, slots := 0, locals := 93 }
theorem fl_X3_listen_27 : Cond.fieldLink RX3 27 "StaggerRadar$Radar" "gapCount" "I" ∈ wsX3_listen := by decide +kernel
theorem fl_X3_listen_33 : Cond.fieldLink RX3 33 "StaggerRadar$Radar" "gaps" "[I" ∈ wsX3_listen := by decide +kernel
theorem iw_X3_listen_X3 : ∀ w ∈ u_ws RX3 TX3 6, w ∈ wsX3_listen := by decide +kernel
theorem iw_X3_listen_X5 : ∀ w ∈ u_ws RX5 TX5 13, w ∈ wsX3_listen := by decide +kernel
abbrev w_X3_listen (K : Nat → ClassId) (g_t : Nat → Nat) (g_p1 : Nat → Nat) (t_shownCount : Int32) (t_targets : Nat → Int32) (t_loud : Nat → Int32) (p1_gapCount : Int32) (p1_targetCount : Int32) (p1_lookCount : Int32) (p1_time : Int32) (p1_gone : Int32) (p1_gaps : Nat → Int32) (p1_settings : Nat → Int32) (p1_spots : Nat → Int32) (p1_speeds : Nat → Int32) (p1_strengths : Nat → Int32) : va_W := [((g_t 0), .inr (3, [.ref (g_t 1), .ref (g_t 2), .ref (g_t 3), .ref (g_t 4), .ref (g_t 5), .int t_shownCount])), ((g_t 1), .inl (K 0, 300, .inl t_targets)), ((g_t 2), .inl (K 0, 300, .inl t_loud)), ((g_p1 0), .inr (5, [.ref (g_p1 1), .ref (g_p1 2), .ref (g_p1 3), .ref (g_p1 4), .ref (g_p1 5), .ref (g_p1 6), .ref (g_p1 7), .ref (g_p1 8), .int p1_gapCount, .int p1_targetCount, .int p1_lookCount, .int p1_time, .int p1_gone])), ((g_p1 1), .inl (K 0, 5, .inl p1_gaps)), ((g_p1 2), .inl (K 0, 7, .inl p1_settings)), ((g_p1 3), .inl (K 0, 8, .inl p1_spots)), ((g_p1 4), .inl (K 0, 8, .inl p1_speeds)), ((g_p1 5), .inl (K 0, 8, .inl p1_strengths))]
def L_X3_listen_2 (p1_gapCount : Int32) (p1_targetCount : Int32) (p1_gaps : Nat → Int32) (p1_settings : Nat → Int32) (p1_spots : Nat → Int32) (p1_speeds : Nat → Int32) (p1_strengths : Nat → Int32) : Nat → (Nat → Int32) → (Nat → Int32) → Int32 → Option ((Nat → Int32) × (Nat → Int32))
  | 0, _, _, _ => none
  | n_ + 1, t_targets, t_loud, x2 =>
    if p1_gapCount ≤ x2 then (some (t_targets, t_loud)) else (gd_ (in_b x2 5) ((F_X3_listenBy t_targets t_loud p1_targetCount p1_settings p1_spots p1_speeds p1_strengths x2 (p1_gaps (x2).toNatClampNeg)).bind fun r_3 => (L_X3_listen_2 p1_gapCount p1_targetCount p1_gaps p1_settings p1_spots p1_speeds p1_strengths n_ r_3.1 r_3.2 (x2 + (1 : Int32)))))
set_option maxHeartbeats 4000000 in
set_option maxRecDepth 100000 in
theorem w_X3_listen_2 {p : Program} {l : Launch} {e : Env} {s : State} {m : MethodId} {args : Array Value} {below : List Frame} {meth : Method} {c : Code} {D : va_G} {K : Nat → ClassId} {A : Nat → Prop} {Q : State → Prop} (C0 : cx_ p s m args c cX3_listen 3 RX3 wsX3_listen D K A) {g_t : Nat → Nat} {g_p1 : Nat → Nat} {t_shownCount : Int32} {p1_gapCount : Int32} {p1_targetCount : Int32} {p1_lookCount : Int32} {p1_time : Int32} {p1_gone : Int32} {p1_gaps : Nat → Int32} {p1_settings : Nat → Int32} {p1_spots : Nat → Int32} {p1_speeds : Nat → Int32} {p1_strengths : Nat → Int32} {res : (Nat → Int32) × (Nat → Int32)} (HR : ∀ (pc : Nat) (H : Heap) (locs : List Loc) (ls : Array Slot), decode cX3_listen pc = .ok (.return_, 1) → va_P D vwCl (w_X3_listen K g_t g_p1 t_shownCount res.1 res.2 p1_gapCount p1_targetCount p1_lookCount p1_time p1_gone p1_gaps p1_settings p1_spots p1_speeds p1_strengths) H → va_D A (w_X3_listen K g_t g_p1 t_shownCount res.1 res.2 p1_gapCount p1_targetCount p1_lookCount p1_time p1_gone p1_gaps p1_settings p1_spots p1_speeds p1_strengths) → va_S A s.heap H locs → W p l e rmX3_listen s m args below meth c H locs 0 0 Q (F0 m pc ls []))  :
    ∀ (n_ : Nat) (t_targets : Nat → Int32) (t_loud : Nat → Int32) (x2 : Int32) (H : Heap) (locs : List Loc) (ls : Array Slot), va_P D vwCl (w_X3_listen K g_t g_p1 t_shownCount t_targets t_loud p1_gapCount p1_targetCount p1_lookCount p1_time p1_gone p1_gaps p1_settings p1_spots p1_speeds p1_strengths) H → va_D A (w_X3_listen K g_t g_p1 t_shownCount t_targets t_loud p1_gapCount p1_targetCount p1_lookCount p1_time p1_gone p1_gaps p1_settings p1_spots p1_speeds p1_strengths) → va_S A s.heap H locs → lv_has ls 3 [(0, .ref (g_t 0)), (1, .ref (g_p1 0)), (2, .int x2)] → L_X3_listen_2 p1_gapCount p1_targetCount p1_gaps p1_settings p1_spots p1_speeds p1_strengths n_ t_targets t_loud x2 = some res → W p l e rmX3_listen s m args below meth c H locs 0 0 Q (F0 m 2 ls []) := by
  obtain ⟨⟨hx, hb, hml, hown, hts⟩, hK, -⟩ := id C0
  intro n_
  induction n_ with
  | zero =>
    intro t_targets t_loud x2 H locs ls hP hD hS hl hF
    exact no_s (show (none : Option ((Nat → Int32) × (Nat → Int32))) = some res from hF)
  | succ n_ ih =>
    intro t_targets t_loud x2 H locs ls hP hD hS hl hF
    rw [L_X3_listen_2] at hF
    refine lv_iload_n hx hb dX3_listen_2 rfl (lv_at hl 2 rfl) ?_
    refine lv_aload_n hx hb dX3_listen_3 rfl (lv_at hl 1 rfl) ?_
    refine va_get (D := D) (ci := 5) (v := .int p1_gapCount) (C := RX5) (T := TX5) (N := 13) hx hb hts iw_X3_listen_X5 hown hK hP 3 rfl rfl 8 (by decide) (hts _ fl_X3_listen_27) (fun _ h9 => h9) rfl dX3_listen_4 ?_
    refine lv_icmp_ge (tgt := 28) hx hb dX3_listen_7 (by decide) (fun c_1 => ?_) (fun c_1 => ?_)
    · have hF := it_pos c_1 hF
      obtain rfl := Option.some.inj hF
      exact HR 28 H locs ls dX3_listen_28 hP hD hS
    · have hF := it_neg c_1 hF
      refine lv_aload_n hx hb dX3_listen_10 rfl (lv_at hl 0 rfl) ?_
      refine lv_aload_n hx hb dX3_listen_11 rfl (lv_at hl 1 rfl) ?_
      refine lv_iload_n hx hb dX3_listen_12 rfl (lv_at hl 2 rfl) ?_
      refine lv_aload_n hx hb dX3_listen_13 rfl (lv_at hl 1 rfl) ?_
      refine va_get (D := D) (ci := 5) (v := .ref (g_p1 1)) (C := RX5) (T := TX5) (N := 13) hx hb hts iw_X3_listen_X5 hown hK hP 3 rfl rfl 0 (by decide) (hts _ fl_X3_listen_33) (fun _ h9 => h9) rfl dX3_listen_14 ?_
      refine lv_iload_n hx hb dX3_listen_17 rfl (lv_at hl 2 rfl) ?_
      obtain ⟨hg_2, hF⟩ := gd_some hF
      refine xl_i (f := p1_gaps) hx hb hK hP 4 0 rfl rfl rfl (in_v hg_2) dX3_listen_18 ?_
      obtain ⟨r_3, hc_4, hF⟩ := bn_some hF
      refine xc_v (wn := (w_X3_listen K g_t g_p1 t_shownCount r_3.1 r_3.2 p1_gapCount p1_targetCount p1_lookCount p1_time p1_gone p1_gaps p1_settings p1_spots p1_speeds p1_strengths)) hP hD hS C0.2.2.1 [0, 1, 2, 3, 5, 6, 7, 8] [4] [1, 2, 3, 4, 0, 5, 6, 7, 8] rfl rfl (by decide) (by decide) rfl (by decide) (va_runV (As := [.ref (g_p1 0), .int x2, .int (p1_gaps (x2).toNatClampNeg)]) (rest := []) C0.1 (c_X3_listenBy l D K g_t g_p1 t_shownCount t_targets t_loud p1_gapCount p1_targetCount p1_lookCount p1_time p1_gone p1_settings p1_spots p1_speeds p1_strengths x2 (p1_gaps (x2).toNatClampNeg) r_3 hc_4 H.size) (cwV 3 hts gX3_listen_X3_listenBy rfl rfl rfl (by decide +kernel) ⟨Nat.le_of_ble_eq_true rfl, Nat.le_of_ble_eq_true rfl⟩) (xp_V C0.2 hP hD hS [0, 1, 2, 3, 5, 6, 7, 8] rfl (by decide) 3 0 rfl rfl rfl) rfl rfl hl.1 rfl (lv_room (Nat.le_of_ble_eq_true rfl)) dX3_listen_19 ⟨Nat.le_of_ble_eq_true rfl, Nat.le_of_ble_eq_true rfl⟩) (fun H locs hP hD hS => ?_)
      refine lv_iinc (v := (x2 + (1 : Int32))) (lv' := [(2, .int (x2 + (1 : Int32))), (0, .ref (g_t 0)), (1, .ref (g_p1 0))]) hx hb dX3_listen_22 hl (k := 2) rfl (congrArg (fun z => x2 + z) (by decide)) (by decide) rfl (fun ls hl => ?_)
      refine lv_goto (tgt := 2) hx hb dX3_listen_25 (by decide) ?_
      exact ih r_3.1 r_3.2 (x2 + (1 : Int32)) H locs ls hP hD hS (lv_sub hl [1, 2, 0] rfl) hF
def F_X3_listen (t_targets : Nat → Int32) (t_loud : Nat → Int32) (p1_gapCount : Int32) (p1_targetCount : Int32) (p1_gaps : Nat → Int32) (p1_settings : Nat → Int32) (p1_spots : Nat → Int32) (p1_speeds : Nat → Int32) (p1_strengths : Nat → Int32) : Option ((Nat → Int32) × (Nat → Int32)) :=
  L_X3_listen_2 p1_gapCount p1_targetCount p1_gaps p1_settings p1_spots p1_speeds p1_strengths fu_ t_targets t_loud (0 : Int32)
set_option maxHeartbeats 4000000 in
set_option maxRecDepth 100000 in
theorem c_X3_listen (l : Launch) (D : va_G) (K : Nat → ClassId) (g_t : Nat → Nat) (g_p1 : Nat → Nat) (t_shownCount : Int32) (t_targets : Nat → Int32) (t_loud : Nat → Int32) (p1_gapCount : Int32) (p1_targetCount : Int32) (p1_lookCount : Int32) (p1_time : Int32) (p1_gone : Int32) (p1_gaps : Nat → Int32) (p1_settings : Nat → Int32) (p1_spots : Nat → Int32) (p1_speeds : Nat → Int32) (p1_strengths : Nat → Int32) (res : (Nat → Int32) × (Nat → Int32)) (hF : F_X3_listen t_targets t_loud p1_gapCount p1_targetCount p1_gaps p1_settings p1_spots p1_speeds p1_strengths = some res) :
    Mv_ l yX3_listen wsX3_listen rmX3_listen D K [.ref (g_t 0), .ref (g_p1 0)] (w_X3_listen K g_t g_p1 t_shownCount t_targets t_loud p1_gapCount p1_targetCount p1_lookCount p1_time p1_gone p1_gaps p1_settings p1_spots p1_speeds p1_strengths) (w_X3_listen K g_t g_p1 t_shownCount res.1 res.2 p1_gapCount p1_targetCount p1_lookCount p1_time p1_gone p1_gaps p1_settings p1_spots p1_speeds p1_strengths) := by
  refine en_v (cc := cX3_listen) (maxL := 3) (own := RX3) (by decide) rfl rfl (Nat.le_of_ble_eq_true rfl) ?_
  intro p e s m args below meth c A Q H locs ls C0 hP hD hS hl HR
  obtain ⟨⟨hx, hb, hml, hown, hts⟩, hK, -⟩ := id C0
  have hl : lv_has ls 3 [(0, .ref (g_t 0)), (1, .ref (g_p1 0))] := hl
  unfold F_X3_listen at hF
  refine lv_iconst (v := 0) hx hb dX3_listen_0 (by decide) ?_
  refine lv_istore_n (lv' := [(2, .int (0 : Int32)), (0, .ref (g_t 0)), (1, .ref (g_p1 0))]) hx hb dX3_listen_1 rfl hl (by decide) rfl (fun ls hl => ?_)
  exact w_X3_listen_2 C0 HR fu_ t_targets t_loud (0 : Int32) H locs ls hP hD hS (lv_sub hl [1, 2, 0] rfl) hF

/-! StaggerRadar.Echoes.loudAt(II)I -/
abbrev rmX3_loudAt : Room := { frames := 0, cells := 0, slots := 0, locals := 0 }
theorem fl_X3_loudAt_15 : Cond.fieldLink RX3 15 "StaggerRadar$Echoes" "loud" "[I" ∈ wsX3_loudAt := by decide +kernel
theorem iw_X3_loudAt_X3 : ∀ w ∈ u_ws RX3 TX3 6, w ∈ wsX3_loudAt := by decide +kernel
abbrev w_X3_loudAt (K : Nat → ClassId) (g_t : Nat → Nat) (t_shownCount : Int32) (t_loud : Nat → Int32) : va_W := [((g_t 0), .inr (3, [.ref (g_t 1), .ref (g_t 2), .ref (g_t 3), .ref (g_t 4), .ref (g_t 5), .int t_shownCount])), ((g_t 2), .inl (K 0, 300, .inl t_loud))]
def F_X3_loudAt (t_loud : Nat → Int32) (x1 : Int32) (x2 : Int32) : Option (Int32) :=
  gd_ (in_b ((x1 * (60 : Int32)) + x2) 300) (some (t_loud ((x1 * (60 : Int32)) + x2).toNatClampNeg))
set_option maxHeartbeats 4000000 in
set_option maxRecDepth 100000 in
theorem c_X3_loudAt (l : Launch) (D : va_G) (K : Nat → ClassId) (g_t : Nat → Nat) (t_shownCount : Int32) (t_loud : Nat → Int32) (x1 : Int32) (x2 : Int32) (res : Int32) (hF : F_X3_loudAt t_loud x1 x2 = some res) :
    Mi_ l yX3_loudAt wsX3_loudAt rmX3_loudAt D K [.ref (g_t 0), .int x1, .int x2] (w_X3_loudAt K g_t t_shownCount t_loud) (w_X3_loudAt K g_t t_shownCount t_loud) (res) := by
  refine en_i (cc := cX3_loudAt) (maxL := 3) (own := RX3) (by decide) rfl rfl (Nat.le_of_ble_eq_true rfl) ?_
  intro p e s m args below meth c A Q H locs ls C0 hP hD hS hl HR
  obtain ⟨⟨hx, hb, hml, hown, hts⟩, hK, -⟩ := id C0
  have hl : lv_has ls 3 [(0, .ref (g_t 0)), (1, .int x1), (2, .int x2)] := hl
  unfold F_X3_loudAt at hF
  refine lv_aload_n hx hb dX3_loudAt_0 rfl (lv_at hl 0 rfl) ?_
  refine va_get (D := D) (ci := 3) (v := .ref (g_t 2)) (C := RX3) (T := TX3) (N := 6) hx hb hts iw_X3_loudAt_X3 hown hK hP 0 rfl rfl 1 (by decide) (hts _ fl_X3_loudAt_15) (fun _ h9 => h9) rfl dX3_loudAt_1 ?_
  refine lv_iload_n hx hb dX3_loudAt_4 rfl (lv_at hl 1 rfl) ?_
  refine lv_bipush (v := 60) hx hb dX3_loudAt_5 (by decide) ?_
  refine lv_imul hx hb dX3_loudAt_7 ?_
  refine lv_iload_n hx hb dX3_loudAt_8 rfl (lv_at hl 2 rfl) ?_
  refine lv_iadd hx hb dX3_loudAt_9 ?_
  obtain ⟨hg_1, hF⟩ := gd_some hF
  refine xl_i (f := t_loud) hx hb hK hP 1 0 rfl rfl rfl (in_v hg_1) dX3_loudAt_10 ?_
  obtain rfl := Option.some.inj hF
  exact HR 11 H locs ls dX3_loudAt_11 hP hD hS

/-! StaggerRadar.Echoes.targetsAt(II)I -/
abbrev rmX3_targetsAt : Room := { frames := 0, cells := 0, slots := 0, locals := 0 }
theorem fl_X3_targetsAt_11 : Cond.fieldLink RX3 11 "StaggerRadar$Echoes" "targets" "[I" ∈ wsX3_targetsAt := by decide +kernel
theorem iw_X3_targetsAt_X3 : ∀ w ∈ u_ws RX3 TX3 6, w ∈ wsX3_targetsAt := by decide +kernel
abbrev w_X3_targetsAt (K : Nat → ClassId) (g_t : Nat → Nat) (t_shownCount : Int32) (t_targets : Nat → Int32) : va_W := [((g_t 0), .inr (3, [.ref (g_t 1), .ref (g_t 2), .ref (g_t 3), .ref (g_t 4), .ref (g_t 5), .int t_shownCount])), ((g_t 1), .inl (K 0, 300, .inl t_targets))]
def F_X3_targetsAt (t_targets : Nat → Int32) (x1 : Int32) (x2 : Int32) : Option (Int32) :=
  gd_ (in_b ((x1 * (60 : Int32)) + x2) 300) (some (t_targets ((x1 * (60 : Int32)) + x2).toNatClampNeg))
set_option maxHeartbeats 4000000 in
set_option maxRecDepth 100000 in
theorem c_X3_targetsAt (l : Launch) (D : va_G) (K : Nat → ClassId) (g_t : Nat → Nat) (t_shownCount : Int32) (t_targets : Nat → Int32) (x1 : Int32) (x2 : Int32) (res : Int32) (hF : F_X3_targetsAt t_targets x1 x2 = some res) :
    Mi_ l yX3_targetsAt wsX3_targetsAt rmX3_targetsAt D K [.ref (g_t 0), .int x1, .int x2] (w_X3_targetsAt K g_t t_shownCount t_targets) (w_X3_targetsAt K g_t t_shownCount t_targets) (res) := by
  refine en_i (cc := cX3_targetsAt) (maxL := 3) (own := RX3) (by decide) rfl rfl (Nat.le_of_ble_eq_true rfl) ?_
  intro p e s m args below meth c A Q H locs ls C0 hP hD hS hl HR
  obtain ⟨⟨hx, hb, hml, hown, hts⟩, hK, -⟩ := id C0
  have hl : lv_has ls 3 [(0, .ref (g_t 0)), (1, .int x1), (2, .int x2)] := hl
  unfold F_X3_targetsAt at hF
  refine lv_aload_n hx hb dX3_targetsAt_0 rfl (lv_at hl 0 rfl) ?_
  refine va_get (D := D) (ci := 3) (v := .ref (g_t 1)) (C := RX3) (T := TX3) (N := 6) hx hb hts iw_X3_targetsAt_X3 hown hK hP 0 rfl rfl 0 (by decide) (hts _ fl_X3_targetsAt_11) (fun _ h9 => h9) rfl dX3_targetsAt_1 ?_
  refine lv_iload_n hx hb dX3_targetsAt_4 rfl (lv_at hl 1 rfl) ?_
  refine lv_bipush (v := 60) hx hb dX3_targetsAt_5 (by decide) ?_
  refine lv_imul hx hb dX3_targetsAt_7 ?_
  refine lv_iload_n hx hb dX3_targetsAt_8 rfl (lv_at hl 2 rfl) ?_
  refine lv_iadd hx hb dX3_targetsAt_9 ?_
  obtain ⟨hg_1, hF⟩ := gd_some hF
  refine xl_i (f := t_targets) hx hb hK hP 1 0 rfl rfl rfl (in_v hg_1) dX3_targetsAt_10 ?_
  obtain rfl := Option.some.inj hF
  exact HR 11 H locs ls dX3_targetsAt_11 hP hD hS

/-! StaggerRadar.at(IIZ)I -/
abbrev rmX10_at : Room := { frames := 5, cells := 0, slots := 0, locals := 115 }
theorem fl_X10_at_10 : Cond.fieldLink RX10 10 "StaggerRadar" "radar" "LStaggerRadar$Radar;" ∈ wsX10_at := by decide +kernel
theorem fl_X10_at_55 : Cond.fieldLink RX10 55 "StaggerRadar" "echoes" "LStaggerRadar$Echoes;" ∈ wsX10_at := by decide +kernel
theorem fl_X10_at_238 : Cond.fieldLink RX10 238 "StaggerRadar$Radar" "gaps" "[I" ∈ wsX10_at := by decide +kernel
theorem iw_X10_at_X10 : ∀ w ∈ u_ws RX10 TX10 14, w ∈ wsX10_at := by decide +kernel
theorem iw_X10_at_X3 : ∀ w ∈ u_ws RX3 TX3 6, w ∈ wsX10_at := by decide +kernel
theorem iw_X10_at_X5 : ∀ w ∈ u_ws RX5 TX5 13, w ∈ wsX10_at := by decide +kernel
abbrev w_X10_at (K : Nat → ClassId) (g_t : Nat → Nat) (g_t_radar : Nat → Nat) (g_t_draft : Nat → Nat) (g_t_text : Nat → Nat) (g_t_reader : Nat → Nat) (g_t_history : Nat → Nat) (g_t_echoes : Nat → Nat) (g_t_tracks : Nat → Nat) (g_t_dwelling : Nat → Nat) (g_t_chooser : Nat → Nat) (g_t_adviser : Nat → Nat) (t_radar_gapCount : Int32) (t_radar_targetCount : Int32) (t_radar_lookCount : Int32) (t_radar_time : Int32) (t_radar_gone : Int32) (t_radar_gaps : Nat → Int32) (t_radar_settings : Nat → Int32) (t_radar_spots : Nat → Int32) (t_radar_speeds : Nat → Int32) (t_radar_strengths : Nat → Int32) (t_echoes_shownCount : Int32) (t_echoes_targets : Nat → Int32) (t_echoes_loud : Nat → Int32) : va_W := [((g_t 0), .inr (9, [.ref (g_t_radar 0), .ref (g_t_draft 0), .ref (g_t_text 0), .ref (g_t_reader 0), .ref (g_t_history 0), .ref (g_t 6), .ref (g_t 7), .ref (g_t 8), .ref (g_t_echoes 0), .ref (g_t_tracks 0), .ref (g_t_dwelling 0), .ref (g_t_chooser 0), .ref (g_t_adviser 0), .ref (g_t 14)])), ((g_t_radar 0), .inr (5, [.ref (g_t_radar 1), .ref (g_t_radar 2), .ref (g_t_radar 3), .ref (g_t_radar 4), .ref (g_t_radar 5), .ref (g_t_radar 6), .ref (g_t_radar 7), .ref (g_t_radar 8), .int t_radar_gapCount, .int t_radar_targetCount, .int t_radar_lookCount, .int t_radar_time, .int t_radar_gone])), ((g_t_radar 1), .inl (K 0, 5, .inl t_radar_gaps)), ((g_t_radar 2), .inl (K 0, 7, .inl t_radar_settings)), ((g_t_radar 3), .inl (K 0, 8, .inl t_radar_spots)), ((g_t_radar 4), .inl (K 0, 8, .inl t_radar_speeds)), ((g_t_radar 5), .inl (K 0, 8, .inl t_radar_strengths)), ((g_t_echoes 0), .inr (3, [.ref (g_t_echoes 1), .ref (g_t_echoes 2), .ref (g_t_echoes 3), .ref (g_t_echoes 4), .ref (g_t_echoes 5), .int t_echoes_shownCount])), ((g_t_echoes 1), .inl (K 0, 300, .inl t_echoes_targets)), ((g_t_echoes 2), .inl (K 0, 300, .inl t_echoes_loud))]
def F_X10_at (t_radar_gapCount : Int32) (t_radar_targetCount : Int32) (t_radar_gaps : Nat → Int32) (t_radar_settings : Nat → Int32) (t_radar_spots : Nat → Int32) (t_radar_speeds : Nat → Int32) (t_radar_strengths : Nat → Int32) (t_echoes_targets : Nat → Int32) (t_echoes_loud : Nat → Int32) (x1 : Int32) (x2 : Int32) (x3 : Int32) : Option (Int32 × (Nat → Int32) × (Nat → Int32)) :=
  (F_X5_hasGap t_radar_gapCount x1).bind fun r_1 => (if r_1 = (0 : Int32) then (some ((-1 : Int32), t_echoes_targets, t_echoes_loud)) else (gd_ (in_b x1 5) ((F_X10_isWithin x2 (0 : Int32) ((t_radar_gaps (x1).toNatClampNeg) - (1 : Int32))).bind fun r_5 => (if r_5 = (0 : Int32) then (some ((-1 : Int32), t_echoes_targets, t_echoes_loud)) else ((F_X3_listen t_echoes_targets t_echoes_loud t_radar_gapCount t_radar_targetCount t_radar_gaps t_radar_settings t_radar_spots t_radar_speeds t_radar_strengths).bind fun r_8 => (if x3 = (0 : Int32) then ((F_X3_targetsAt r_8.1 x1 x2).bind fun r_11 => (some (r_11, r_8.1, r_8.2))) else ((F_X3_loudAt r_8.2 x1 x2).bind fun r_13 => (some (r_13, r_8.1, r_8.2)))))))))
set_option maxHeartbeats 4000000 in
set_option maxRecDepth 100000 in
theorem c_X10_at (l : Launch) (D : va_G) (K : Nat → ClassId) (g_t : Nat → Nat) (g_t_radar : Nat → Nat) (g_t_draft : Nat → Nat) (g_t_text : Nat → Nat) (g_t_reader : Nat → Nat) (g_t_history : Nat → Nat) (g_t_echoes : Nat → Nat) (g_t_tracks : Nat → Nat) (g_t_dwelling : Nat → Nat) (g_t_chooser : Nat → Nat) (g_t_adviser : Nat → Nat) (t_radar_gapCount : Int32) (t_radar_targetCount : Int32) (t_radar_lookCount : Int32) (t_radar_time : Int32) (t_radar_gone : Int32) (t_radar_gaps : Nat → Int32) (t_radar_settings : Nat → Int32) (t_radar_spots : Nat → Int32) (t_radar_speeds : Nat → Int32) (t_radar_strengths : Nat → Int32) (t_echoes_shownCount : Int32) (t_echoes_targets : Nat → Int32) (t_echoes_loud : Nat → Int32) (x1 : Int32) (x2 : Int32) (x3 : Int32) (res : Int32 × (Nat → Int32) × (Nat → Int32)) (hF : F_X10_at t_radar_gapCount t_radar_targetCount t_radar_gaps t_radar_settings t_radar_spots t_radar_speeds t_radar_strengths t_echoes_targets t_echoes_loud x1 x2 x3 = some res) :
    Mi_ l yX10_at wsX10_at rmX10_at D K [.ref (g_t 0), .int x1, .int x2, .int x3] (w_X10_at K g_t g_t_radar g_t_draft g_t_text g_t_reader g_t_history g_t_echoes g_t_tracks g_t_dwelling g_t_chooser g_t_adviser t_radar_gapCount t_radar_targetCount t_radar_lookCount t_radar_time t_radar_gone t_radar_gaps t_radar_settings t_radar_spots t_radar_speeds t_radar_strengths t_echoes_shownCount t_echoes_targets t_echoes_loud) (w_X10_at K g_t g_t_radar g_t_draft g_t_text g_t_reader g_t_history g_t_echoes g_t_tracks g_t_dwelling g_t_chooser g_t_adviser t_radar_gapCount t_radar_targetCount t_radar_lookCount t_radar_time t_radar_gone t_radar_gaps t_radar_settings t_radar_spots t_radar_speeds t_radar_strengths t_echoes_shownCount res.2.1 res.2.2) (res.1) := by
  refine en_i (cc := cX10_at) (maxL := 4) (own := RX10) (by decide) rfl rfl (Nat.le_of_ble_eq_true rfl) ?_
  intro p e s m args below meth c A Q H locs ls C0 hP hD hS hl HR
  obtain ⟨⟨hx, hb, hml, hown, hts⟩, hK, -⟩ := id C0
  have hl : lv_has ls 4 [(0, .ref (g_t 0)), (1, .int x1), (2, .int x2), (3, .int x3)] := hl
  unfold F_X10_at at hF
  refine lv_aload_n hx hb dX10_at_0 rfl (lv_at hl 0 rfl) ?_
  refine va_get (D := D) (ci := 9) (v := .ref (g_t_radar 0)) (C := RX10) (T := TX10) (N := 14) hx hb hts iw_X10_at_X10 hown hK hP 0 rfl rfl 0 (by decide) (hts _ fl_X10_at_10) (fun _ h9 => h9) rfl dX10_at_1 ?_
  refine lv_iload_n hx hb dX10_at_4 rfl (lv_at hl 1 rfl) ?_
  obtain ⟨r_1, hc_2, hF⟩ := bn_some hF
  refine xc_i (wn := (w_X10_at K g_t g_t_radar g_t_draft g_t_text g_t_reader g_t_history g_t_echoes g_t_tracks g_t_dwelling g_t_chooser g_t_adviser t_radar_gapCount t_radar_targetCount t_radar_lookCount t_radar_time t_radar_gone t_radar_gaps t_radar_settings t_radar_spots t_radar_speeds t_radar_strengths t_echoes_shownCount t_echoes_targets t_echoes_loud)) hP hD hS C0.2.2.1 [1] [0, 2, 3, 4, 5, 6, 7, 8, 9] [0, 9, 1, 2, 3, 4, 5, 6, 7, 8] rfl rfl (by decide) (by decide) rfl (by decide) (va_runV (As := [.int x1]) (rest := []) C0.1 (c_X5_hasGap l D K g_t_radar t_radar_gapCount t_radar_targetCount t_radar_lookCount t_radar_time t_radar_gone x1 r_1 hc_2 H.size) (cwV 1 hts gX10_at_X5_hasGap rfl rfl rfl (by decide +kernel) ⟨Nat.le_of_ble_eq_true rfl, Nat.le_of_ble_eq_true rfl⟩) (xp_V C0.2 hP hD hS [1] rfl (by decide) 5 0 rfl rfl rfl) rfl rfl hl.1 rfl (lv_room (Nat.le_of_ble_eq_true rfl)) dX10_at_5 ⟨Nat.le_of_ble_eq_true rfl, Nat.le_of_ble_eq_true rfl⟩) (fun H locs hP hD hS => ?_)
  refine lv_if_eq (tgt := 30) hx hb dX10_at_8 (by decide) (fun c_3 => ?_) (fun c_3 => ?_)
  · have hF := it_pos c_3 hF
    refine lv_iconst (v := (-1)) hx hb dX10_at_30 (by decide) ?_
    obtain rfl := Option.some.inj hF
    exact HR 31 H locs ls dX10_at_31 hP hD hS
  · have hF := it_neg c_3 hF
    refine lv_iload_n hx hb dX10_at_11 rfl (lv_at hl 2 rfl) ?_
    refine lv_iconst (v := 0) hx hb dX10_at_12 (by decide) ?_
    refine lv_aload_n hx hb dX10_at_13 rfl (lv_at hl 0 rfl) ?_
    refine va_get (D := D) (ci := 9) (v := .ref (g_t_radar 0)) (C := RX10) (T := TX10) (N := 14) hx hb hts iw_X10_at_X10 hown hK hP 0 rfl rfl 0 (by decide) (hts _ fl_X10_at_10) (fun _ h9 => h9) rfl dX10_at_14 ?_
    refine va_get (D := D) (ci := 5) (v := .ref (g_t_radar 1)) (C := RX5) (T := TX5) (N := 13) hx hb hts iw_X10_at_X5 hown hK hP 1 rfl rfl 0 (by decide) (hts _ fl_X10_at_238) (fun _ h9 => h9) rfl dX10_at_17 ?_
    refine lv_iload_n hx hb dX10_at_20 rfl (lv_at hl 1 rfl) ?_
    obtain ⟨hg_4, hF⟩ := gd_some hF
    refine xl_i (f := t_radar_gaps) hx hb hK hP 2 0 rfl rfl rfl (in_v hg_4) dX10_at_21 ?_
    refine lv_iconst (v := 1) hx hb dX10_at_22 (by decide) ?_
    refine lv_isub hx hb dX10_at_23 ?_
    obtain ⟨r_5, hc_6, hF⟩ := bn_some hF
    refine xc_i (wn := (w_X10_at K g_t g_t_radar g_t_draft g_t_text g_t_reader g_t_history g_t_echoes g_t_tracks g_t_dwelling g_t_chooser g_t_adviser t_radar_gapCount t_radar_targetCount t_radar_lookCount t_radar_time t_radar_gone t_radar_gaps t_radar_settings t_radar_spots t_radar_speeds t_radar_strengths t_echoes_shownCount t_echoes_targets t_echoes_loud)) hP hD hS C0.2.2.1 [] [0, 1, 2, 3, 4, 5, 6, 7, 8, 9] [0, 1, 2, 3, 4, 5, 6, 7, 8, 9] rfl rfl (by decide) (by decide) rfl (by decide) (va_runS (As := [.int x2, .int (0 : Int32), .int ((t_radar_gaps (x1).toNatClampNeg) - (1 : Int32))]) (rest := []) C0.1 (c_X10_isWithin l D K x2 (0 : Int32) ((t_radar_gaps (x1).toNatClampNeg) - (1 : Int32)) r_5 hc_6 H.size) (va_cwS 3 hts gX10_at_X10_isWithin rfl rfl rfl (by decide +kernel) ⟨Nat.le_of_ble_eq_true rfl, Nat.le_of_ble_eq_true rfl⟩) (xp_S C0.2 hP hD hS [] rfl (by decide)) rfl rfl hl.1 rfl (lv_room (Nat.le_of_ble_eq_true rfl)) dX10_at_24 ⟨Nat.le_of_ble_eq_true rfl, Nat.le_of_ble_eq_true rfl⟩) (fun H locs hP hD hS => ?_)
    refine lv_if_ne (tgt := 32) hx hb dX10_at_27 (by decide) (fun c_7 => ?_) (fun c_7 => ?_)
    · have hF := it_neg c_7 hF
      refine lv_aload_n hx hb dX10_at_32 rfl (lv_at hl 0 rfl) ?_
      refine va_get (D := D) (ci := 9) (v := .ref (g_t_echoes 0)) (C := RX10) (T := TX10) (N := 14) hx hb hts iw_X10_at_X10 hown hK hP 0 rfl rfl 8 (by decide) (hts _ fl_X10_at_55) (fun _ h9 => h9) rfl dX10_at_33 ?_
      refine lv_aload_n hx hb dX10_at_36 rfl (lv_at hl 0 rfl) ?_
      refine va_get (D := D) (ci := 9) (v := .ref (g_t_radar 0)) (C := RX10) (T := TX10) (N := 14) hx hb hts iw_X10_at_X10 hown hK hP 0 rfl rfl 0 (by decide) (hts _ fl_X10_at_10) (fun _ h9 => h9) rfl dX10_at_37 ?_
      obtain ⟨r_8, hc_9, hF⟩ := bn_some hF
      refine xc_v (wn := (w_X10_at K g_t g_t_radar g_t_draft g_t_text g_t_reader g_t_history g_t_echoes g_t_tracks g_t_dwelling g_t_chooser g_t_adviser t_radar_gapCount t_radar_targetCount t_radar_lookCount t_radar_time t_radar_gone t_radar_gaps t_radar_settings t_radar_spots t_radar_speeds t_radar_strengths t_echoes_shownCount r_8.1 r_8.2)) hP hD hS C0.2.2.1 [7, 8, 9, 1, 2, 3, 4, 5, 6] [0] [0, 4, 5, 6, 7, 8, 9, 1, 2, 3] rfl rfl (by decide) (by decide) rfl (by decide) (va_runV (As := [.ref (g_t_radar 0)]) (rest := []) C0.1 (c_X3_listen l D K g_t_echoes g_t_radar t_echoes_shownCount t_echoes_targets t_echoes_loud t_radar_gapCount t_radar_targetCount t_radar_lookCount t_radar_time t_radar_gone t_radar_gaps t_radar_settings t_radar_spots t_radar_speeds t_radar_strengths r_8 hc_9 H.size) (cwV 1 hts gX10_at_X3_listen rfl rfl rfl (by decide +kernel) ⟨Nat.le_of_ble_eq_true rfl, Nat.le_of_ble_eq_true rfl⟩) (xp_V C0.2 hP hD hS [7, 8, 9, 1, 2, 3, 4, 5, 6] rfl (by decide) 3 0 rfl rfl rfl) rfl rfl hl.1 rfl (lv_room (Nat.le_of_ble_eq_true rfl)) dX10_at_40 ⟨Nat.le_of_ble_eq_true rfl, Nat.le_of_ble_eq_true rfl⟩) (fun H locs hP hD hS => ?_)
      refine lv_iload_n hx hb dX10_at_43 rfl (lv_at hl 3 rfl) ?_
      refine lv_if_eq (tgt := 59) hx hb dX10_at_44 (by decide) (fun c_10 => ?_) (fun c_10 => ?_)
      · have hF := it_pos c_10 hF
        refine lv_aload_n hx hb dX10_at_59 rfl (lv_at hl 0 rfl) ?_
        refine va_get (D := D) (ci := 9) (v := .ref (g_t_echoes 0)) (C := RX10) (T := TX10) (N := 14) hx hb hts iw_X10_at_X10 hown hK hP 0 rfl rfl 8 (by decide) (hts _ fl_X10_at_55) (fun _ h9 => h9) rfl dX10_at_60 ?_
        refine lv_iload_n hx hb dX10_at_63 rfl (lv_at hl 1 rfl) ?_
        refine lv_iload_n hx hb dX10_at_64 rfl (lv_at hl 2 rfl) ?_
        obtain ⟨r_11, hc_12, hF⟩ := bn_some hF
        refine xc_i (wn := (w_X10_at K g_t g_t_radar g_t_draft g_t_text g_t_reader g_t_history g_t_echoes g_t_tracks g_t_dwelling g_t_chooser g_t_adviser t_radar_gapCount t_radar_targetCount t_radar_lookCount t_radar_time t_radar_gone t_radar_gaps t_radar_settings t_radar_spots t_radar_speeds t_radar_strengths t_echoes_shownCount r_8.1 r_8.2)) hP hD hS C0.2.2.1 [7, 8] [0, 1, 2, 3, 4, 5, 6, 9] [0, 1, 2, 3, 4, 5, 6, 8, 9, 7] rfl rfl (by decide) (by decide) rfl (by decide) (va_runV (As := [.int x1, .int x2]) (rest := []) C0.1 (c_X3_targetsAt l D K g_t_echoes t_echoes_shownCount r_8.1 x1 x2 r_11 hc_12 H.size) (cwV 2 hts gX10_at_X3_targetsAt rfl rfl rfl (by decide +kernel) ⟨Nat.le_of_ble_eq_true rfl, Nat.le_of_ble_eq_true rfl⟩) (xp_V C0.2 hP hD hS [7, 8] rfl (by decide) 3 0 rfl rfl rfl) rfl rfl hl.1 rfl (lv_room (Nat.le_of_ble_eq_true rfl)) dX10_at_65 ⟨Nat.le_of_ble_eq_true rfl, Nat.le_of_ble_eq_true rfl⟩) (fun H locs hP hD hS => ?_)
        obtain rfl := Option.some.inj hF
        exact HR 68 H locs ls dX10_at_68 hP hD hS
      · have hF := it_neg c_10 hF
        refine lv_aload_n hx hb dX10_at_47 rfl (lv_at hl 0 rfl) ?_
        refine va_get (D := D) (ci := 9) (v := .ref (g_t_echoes 0)) (C := RX10) (T := TX10) (N := 14) hx hb hts iw_X10_at_X10 hown hK hP 0 rfl rfl 8 (by decide) (hts _ fl_X10_at_55) (fun _ h9 => h9) rfl dX10_at_48 ?_
        refine lv_iload_n hx hb dX10_at_51 rfl (lv_at hl 1 rfl) ?_
        refine lv_iload_n hx hb dX10_at_52 rfl (lv_at hl 2 rfl) ?_
        obtain ⟨r_13, hc_14, hF⟩ := bn_some hF
        refine xc_i (wn := (w_X10_at K g_t g_t_radar g_t_draft g_t_text g_t_reader g_t_history g_t_echoes g_t_tracks g_t_dwelling g_t_chooser g_t_adviser t_radar_gapCount t_radar_targetCount t_radar_lookCount t_radar_time t_radar_gone t_radar_gaps t_radar_settings t_radar_spots t_radar_speeds t_radar_strengths t_echoes_shownCount r_8.1 r_8.2)) hP hD hS C0.2.2.1 [7, 9] [0, 1, 2, 3, 4, 5, 6, 8] [0, 1, 2, 3, 4, 5, 6, 8, 7, 9] rfl rfl (by decide) (by decide) rfl (by decide) (va_runV (As := [.int x1, .int x2]) (rest := []) C0.1 (c_X3_loudAt l D K g_t_echoes t_echoes_shownCount r_8.2 x1 x2 r_13 hc_14 H.size) (cwV 2 hts gX10_at_X3_loudAt rfl rfl rfl (by decide +kernel) ⟨Nat.le_of_ble_eq_true rfl, Nat.le_of_ble_eq_true rfl⟩) (xp_V C0.2 hP hD hS [7, 9] rfl (by decide) 3 0 rfl rfl rfl) rfl rfl hl.1 rfl (lv_room (Nat.le_of_ble_eq_true rfl)) dX10_at_53 ⟨Nat.le_of_ble_eq_true rfl, Nat.le_of_ble_eq_true rfl⟩) (fun H locs hP hD hS => ?_)
        refine lv_goto (tgt := 68) hx hb dX10_at_56 (by decide) ?_
        obtain rfl := Option.some.inj hF
        exact HR 68 H locs ls dX10_at_68 hP hD hS
    · have hF := it_pos c_7 hF
      refine lv_iconst (v := (-1)) hx hb dX10_at_30 (by decide) ?_
      obtain rfl := Option.some.inj hF
      exact HR 31 H locs ls dX10_at_31 hP hD hS

/-! StaggerRadar.isSpeed(I)Z -/
abbrev rmX10_isSpeed : Room := { frames := 1, cells := 0, slots := 0, locals := 22 }
abbrev w_X10_isSpeed (K : Nat → ClassId) : va_W := []
def F_X10_isSpeed (x0 : Int32) : Option (Int32) :=
  (F_X10_isWithin x0 (-500 : Int32) (500 : Int32)).bind fun r_1 => (gd_ (decide (r_1 &&& 1 = r_1)) (some r_1))
set_option maxHeartbeats 4000000 in
set_option maxRecDepth 100000 in
theorem c_X10_isSpeed (l : Launch) (D : va_G) (K : Nat → ClassId) (x0 : Int32) (res : Int32) (hF : F_X10_isSpeed x0 = some res) :
    Mi_ l yX10_isSpeed wsX10_isSpeed rmX10_isSpeed D K [.int x0] (w_X10_isSpeed K) (w_X10_isSpeed K) (res) := by
  refine en_z (cc := cX10_isSpeed) (maxL := 1) (own := RX10) (by decide) rfl rfl (Nat.le_of_ble_eq_true rfl) ?_
  intro p e s m args below meth c A Q H locs ls C0 hP hD hS hl HR
  obtain ⟨⟨hx, hb, hml, hown, hts⟩, hK, -⟩ := id C0
  have hl : lv_has ls 1 [(0, .int x0)] := hl
  unfold F_X10_isSpeed at hF
  refine lv_iload_n hx hb dX10_isSpeed_0 rfl (lv_at hl 0 rfl) ?_
  refine lv_sipush (v := (-500)) hx hb dX10_isSpeed_1 (by decide) ?_
  refine lv_sipush (v := 500) hx hb dX10_isSpeed_4 (by decide) ?_
  obtain ⟨r_1, hc_2, hF⟩ := bn_some hF
  refine xc_i (wn := (w_X10_isSpeed K)) hP hD hS C0.2.2.1 [] [] [] rfl rfl (by decide) (by decide) rfl (by decide) (va_runS (As := [.int x0, .int (-500 : Int32), .int (500 : Int32)]) (rest := []) C0.1 (c_X10_isWithin l D K x0 (-500 : Int32) (500 : Int32) r_1 hc_2 H.size) (va_cwS 3 hts gX10_isSpeed_X10_isWithin rfl rfl rfl (by decide +kernel) ⟨Nat.le_of_ble_eq_true rfl, Nat.le_of_ble_eq_true rfl⟩) (xp_S C0.2 hP hD hS [] rfl (by decide)) rfl rfl hl.1 rfl (lv_room (Nat.le_of_ble_eq_true rfl)) dX10_isSpeed_7 ⟨Nat.le_of_ble_eq_true rfl, Nat.le_of_ble_eq_true rfl⟩) (fun H locs hP hD hS => ?_)
  obtain ⟨hg_3, hF⟩ := gd_some hF
  obtain rfl := Option.some.inj hF
  exact HR 10 H locs ls dX10_isSpeed_10 (zn_of hg_3) hP hD hS

/-! StaggerRadar.blind(I)I -/
abbrev rmX10_blind : Room := { frames := 3, cells := 0, slots := 0, locals := 68 }
theorem fl_X10_blind_10 : Cond.fieldLink RX10 10 "StaggerRadar" "radar" "LStaggerRadar$Radar;" ∈ wsX10_blind := by decide +kernel
theorem iw_X10_blind_X10 : ∀ w ∈ u_ws RX10 TX10 14, w ∈ wsX10_blind := by decide +kernel
theorem iw_X10_blind_X5 : ∀ w ∈ u_ws RX5 TX5 13, w ∈ wsX10_blind := by decide +kernel
abbrev w_X10_blind (K : Nat → ClassId) (g_t : Nat → Nat) (g_t_radar : Nat → Nat) (g_t_draft : Nat → Nat) (g_t_text : Nat → Nat) (g_t_reader : Nat → Nat) (g_t_history : Nat → Nat) (g_t_echoes : Nat → Nat) (g_t_tracks : Nat → Nat) (g_t_dwelling : Nat → Nat) (g_t_chooser : Nat → Nat) (g_t_adviser : Nat → Nat) (t_radar_gapCount : Int32) (t_radar_targetCount : Int32) (t_radar_lookCount : Int32) (t_radar_time : Int32) (t_radar_gone : Int32) (t_radar_gaps : Nat → Int32) (t_radar_settings : Nat → Int32) : va_W := [((g_t 0), .inr (9, [.ref (g_t_radar 0), .ref (g_t_draft 0), .ref (g_t_text 0), .ref (g_t_reader 0), .ref (g_t_history 0), .ref (g_t 6), .ref (g_t 7), .ref (g_t 8), .ref (g_t_echoes 0), .ref (g_t_tracks 0), .ref (g_t_dwelling 0), .ref (g_t_chooser 0), .ref (g_t_adviser 0), .ref (g_t 14)])), ((g_t_radar 0), .inr (5, [.ref (g_t_radar 1), .ref (g_t_radar 2), .ref (g_t_radar 3), .ref (g_t_radar 4), .ref (g_t_radar 5), .ref (g_t_radar 6), .ref (g_t_radar 7), .ref (g_t_radar 8), .int t_radar_gapCount, .int t_radar_targetCount, .int t_radar_lookCount, .int t_radar_time, .int t_radar_gone])), ((g_t_radar 1), .inl (K 0, 5, .inl t_radar_gaps)), ((g_t_radar 2), .inl (K 0, 7, .inl t_radar_settings))]
def F_X10_blind (t_radar_gapCount : Int32) (t_radar_gaps : Nat → Int32) (t_radar_settings : Nat → Int32) (x1 : Int32) : Option (Int32) :=
  (F_X10_isSpeed x1).bind fun r_1 => (if r_1 = (0 : Int32) then (some (-1 : Int32)) else ((F_X7_blindGaps t_radar_gapCount t_radar_gaps t_radar_settings x1).bind fun r_4 => (some r_4)))
set_option maxHeartbeats 4000000 in
set_option maxRecDepth 100000 in
theorem c_X10_blind (l : Launch) (D : va_G) (K : Nat → ClassId) (g_t : Nat → Nat) (g_t_radar : Nat → Nat) (g_t_draft : Nat → Nat) (g_t_text : Nat → Nat) (g_t_reader : Nat → Nat) (g_t_history : Nat → Nat) (g_t_echoes : Nat → Nat) (g_t_tracks : Nat → Nat) (g_t_dwelling : Nat → Nat) (g_t_chooser : Nat → Nat) (g_t_adviser : Nat → Nat) (t_radar_gapCount : Int32) (t_radar_targetCount : Int32) (t_radar_lookCount : Int32) (t_radar_time : Int32) (t_radar_gone : Int32) (t_radar_gaps : Nat → Int32) (t_radar_settings : Nat → Int32) (x1 : Int32) (res : Int32) (hF : F_X10_blind t_radar_gapCount t_radar_gaps t_radar_settings x1 = some res) :
    Mi_ l yX10_blind wsX10_blind rmX10_blind D K [.ref (g_t 0), .int x1] (w_X10_blind K g_t g_t_radar g_t_draft g_t_text g_t_reader g_t_history g_t_echoes g_t_tracks g_t_dwelling g_t_chooser g_t_adviser t_radar_gapCount t_radar_targetCount t_radar_lookCount t_radar_time t_radar_gone t_radar_gaps t_radar_settings) (w_X10_blind K g_t g_t_radar g_t_draft g_t_text g_t_reader g_t_history g_t_echoes g_t_tracks g_t_dwelling g_t_chooser g_t_adviser t_radar_gapCount t_radar_targetCount t_radar_lookCount t_radar_time t_radar_gone t_radar_gaps t_radar_settings) (res) := by
  refine en_i (cc := cX10_blind) (maxL := 2) (own := RX10) (by decide) rfl rfl (Nat.le_of_ble_eq_true rfl) ?_
  intro p e s m args below meth c A Q H locs ls C0 hP hD hS hl HR
  obtain ⟨⟨hx, hb, hml, hown, hts⟩, hK, -⟩ := id C0
  have hl : lv_has ls 2 [(0, .ref (g_t 0)), (1, .int x1)] := hl
  unfold F_X10_blind at hF
  refine lv_iload_n hx hb dX10_blind_0 rfl (lv_at hl 1 rfl) ?_
  obtain ⟨r_1, hc_2, hF⟩ := bn_some hF
  refine xc_i (wn := (w_X10_blind K g_t g_t_radar g_t_draft g_t_text g_t_reader g_t_history g_t_echoes g_t_tracks g_t_dwelling g_t_chooser g_t_adviser t_radar_gapCount t_radar_targetCount t_radar_lookCount t_radar_time t_radar_gone t_radar_gaps t_radar_settings)) hP hD hS C0.2.2.1 [] [0, 1, 2, 3] [0, 1, 2, 3] rfl rfl (by decide) (by decide) rfl (by decide) (va_runS (As := [.int x1]) (rest := []) C0.1 (c_X10_isSpeed l D K x1 r_1 hc_2 H.size) (va_cwS 1 hts gX10_blind_X10_isSpeed rfl rfl rfl (by decide +kernel) ⟨Nat.le_of_ble_eq_true rfl, Nat.le_of_ble_eq_true rfl⟩) (xp_S C0.2 hP hD hS [] rfl (by decide)) rfl rfl hl.1 rfl (lv_room (Nat.le_of_ble_eq_true rfl)) dX10_blind_1 ⟨Nat.le_of_ble_eq_true rfl, Nat.le_of_ble_eq_true rfl⟩) (fun H locs hP hD hS => ?_)
  refine lv_if_eq (tgt := 18) hx hb dX10_blind_4 (by decide) (fun c_3 => ?_) (fun c_3 => ?_)
  · have hF := it_pos c_3 hF
    refine lv_iconst (v := (-1)) hx hb dX10_blind_18 (by decide) ?_
    obtain rfl := Option.some.inj hF
    exact HR 19 H locs ls dX10_blind_19 hP hD hS
  · have hF := it_neg c_3 hF
    refine lv_aload_n hx hb dX10_blind_7 rfl (lv_at hl 0 rfl) ?_
    refine va_get (D := D) (ci := 9) (v := .ref (g_t_radar 0)) (C := RX10) (T := TX10) (N := 14) hx hb hts iw_X10_blind_X10 hown hK hP 0 rfl rfl 0 (by decide) (hts _ fl_X10_blind_10) (fun _ h9 => h9) rfl dX10_blind_8 ?_
    refine lv_iload_n hx hb dX10_blind_11 rfl (lv_at hl 1 rfl) ?_
    obtain ⟨r_4, hc_5, hF⟩ := bn_some hF
    refine xc_i (wn := (w_X10_blind K g_t g_t_radar g_t_draft g_t_text g_t_reader g_t_history g_t_echoes g_t_tracks g_t_dwelling g_t_chooser g_t_adviser t_radar_gapCount t_radar_targetCount t_radar_lookCount t_radar_time t_radar_gone t_radar_gaps t_radar_settings)) hP hD hS C0.2.2.1 [1, 2, 3] [0] [0, 1, 2, 3] rfl rfl (by decide) (by decide) rfl (by decide) (va_runS (As := [.ref (g_t_radar 0), .int x1]) (rest := []) C0.1 (c_X7_blindGaps l D K g_t_radar t_radar_gapCount t_radar_targetCount t_radar_lookCount t_radar_time t_radar_gone t_radar_gaps t_radar_settings x1 r_4 hc_5 H.size) (va_cwS 2 hts gX10_blind_X7_blindGaps rfl rfl rfl (by decide +kernel) ⟨Nat.le_of_ble_eq_true rfl, Nat.le_of_ble_eq_true rfl⟩) (xp_S C0.2 hP hD hS [1, 2, 3] rfl (by decide)) rfl rfl hl.1 rfl (lv_room (Nat.le_of_ble_eq_true rfl)) dX10_blind_12 ⟨Nat.le_of_ble_eq_true rfl, Nat.le_of_ble_eq_true rfl⟩) (fun H locs hP hD hS => ?_)
    refine lv_goto (tgt := 19) hx hb dX10_blind_15 (by decide) ?_
    obtain rfl := Option.some.inj hF
    exact HR 19 H locs ls dX10_blind_19 hP hD hS

/-! StaggerRadar.byteOf(JI)I -/
abbrev rmX10_byteOf : Room := { frames := 0, cells := 0, slots := 0, locals := 0 }
abbrev w_X10_byteOf (K : Nat → ClassId) : va_W := []
def F_X10_byteOf (x0 : Int64) (x2 : Int32) : Option (Int32) :=
  some ((((x0).toUInt64 >>> ((((56 : Int32) - ((8 : Int32) * x2))).toInt64.toUInt64 &&& Int64.toUInt64 63)).toInt64).toInt32 &&& (255 : Int32))
set_option maxHeartbeats 4000000 in
set_option maxRecDepth 100000 in
theorem c_X10_byteOf (l : Launch) (D : va_G) (K : Nat → ClassId) (x0 : Int64) (x2 : Int32) (res : Int32) (hF : F_X10_byteOf x0 x2 = some res) :
    Mi_ l yX10_byteOf wsX10_byteOf rmX10_byteOf D K [.long x0, .int x2] (w_X10_byteOf K) (w_X10_byteOf K) (res) := by
  refine en_i (cc := cX10_byteOf) (maxL := 3) (own := RX10) (by decide) rfl rfl (Nat.le_of_ble_eq_true rfl) ?_
  intro p e s m args below meth c A Q H locs ls C0 hP hD hS hl HR
  obtain ⟨⟨hx, hb, hml, hown, hts⟩, hK, -⟩ := id C0
  have hl : lv_has ls 3 [(0, .long x0), (2, .int x2)] := hl
  unfold F_X10_byteOf at hF
  refine lv_lload_n hx hb dX10_byteOf_0 rfl (lv_at hl 0 rfl) ?_
  refine lv_bipush (v := 56) hx hb dX10_byteOf_1 (by decide) ?_
  refine lv_bipush (v := 8) hx hb dX10_byteOf_3 (by decide) ?_
  refine lv_iload_n hx hb dX10_byteOf_5 rfl (lv_at hl 1 rfl) ?_
  refine lv_imul hx hb dX10_byteOf_6 ?_
  refine lv_isub hx hb dX10_byteOf_7 ?_
  refine lv_lushr hx hb dX10_byteOf_8 rfl ?_
  refine lv_l2i hx hb dX10_byteOf_9 rfl ?_
  refine lv_sipush (v := 255) hx hb dX10_byteOf_10 (by decide) ?_
  refine lv_iand hx hb dX10_byteOf_13 ?_
  obtain rfl := Option.some.inj hF
  exact HR 14 H locs ls dX10_byteOf_14 hP hD hS

/-! StaggerRadar.Chooser.openAll(LStaggerRadar$Radar;)V -/
abbrev rmX1_openAll : Room := { frames := 2, cells := 0, slots := 0, locals := 45 }
theorem fl_X1_openAll_11 : Cond.fieldLink RX1 11 "StaggerRadar$Chooser" "open" "[J" ∈ wsX1_openAll := by decide +kernel
theorem fl_X1_openAll_18 : Cond.fieldLink RX1 18 "StaggerRadar$Chooser" "all" "[J" ∈ wsX1_openAll := by decide +kernel
theorem fl_X1_openAll_32 : Cond.fieldLink RX1 32 "StaggerRadar$Chooser" "low" "I" ∈ wsX1_openAll := by decide +kernel
theorem fl_X1_openAll_41 : Cond.fieldLink RX1 41 "StaggerRadar$Chooser" "width" "I" ∈ wsX1_openAll := by decide +kernel
theorem fl_X1_openAll_44 : Cond.fieldLink RX1 44 "StaggerRadar$Radar" "settings" "[I" ∈ wsX1_openAll := by decide +kernel
theorem iw_X1_openAll_X1 : ∀ w ∈ u_ws RX1 TX1 13, w ∈ wsX1_openAll := by decide +kernel
theorem iw_X1_openAll_X5 : ∀ w ∈ u_ws RX5 TX5 13, w ∈ wsX1_openAll := by decide +kernel
abbrev w_X1_openAll (K : Nat → ClassId) (g_t : Nat → Nat) (g_p1 : Nat → Nat) (t_size : Int32) (t_low : Int32) (t_width : Int32) (t_limit : Int32) (t_needed : Int32) (t_parts : Int32) (t_leastSum : Int32) (t_fitCount : Int32) (t_open : Nat → Int64) (t_all : Nat → Int64) (p1_gapCount : Int32) (p1_targetCount : Int32) (p1_lookCount : Int32) (p1_time : Int32) (p1_gone : Int32) (p1_settings : Nat → Int32) : va_W := [((g_t 0), .inr (1, [.ref (g_t 1), .ref (g_t 2), .ref (g_t 3), .ref (g_t 4), .int t_size, .int t_low, .int t_width, .int t_limit, .int t_needed, .int t_parts, .ref (g_t 11), .int t_leastSum, .int t_fitCount])), ((g_t 1), .inl (K 1, 84, .inr (.inl t_open))), ((g_t 3), .inl (K 1, 4, .inr (.inl t_all))), ((g_p1 0), .inr (5, [.ref (g_p1 1), .ref (g_p1 2), .ref (g_p1 3), .ref (g_p1 4), .ref (g_p1 5), .ref (g_p1 6), .ref (g_p1 7), .ref (g_p1 8), .int p1_gapCount, .int p1_targetCount, .int p1_lookCount, .int p1_time, .int p1_gone])), ((g_p1 2), .inl (K 0, 7, .inl p1_settings))]
def L_X1_openAll_48 (t_low : Int32) (t_width : Int32) (p1_settings : Nat → Int32) (k_18 : (Nat → Int64) → (Nat → Int64) → Int32 → Option ((Nat → Int64) × (Nat → Int64))) : Nat → (Nat → Int64) → (Nat → Int64) → Int32 → Int32 → Option ((Nat → Int64) × (Nat → Int64))
  | 0, _, _, _, _ => none
  | n_ + 1, t_open, t_all, x2, x3 =>
    if t_width ≤ x3 then (k_18 t_open t_all (x2 + (1 : Int32))) else ((F_X5_hides p1_settings (x2 + (1 : Int32)) (t_low + x3)).bind fun r_2 => (if r_2 = (0 : Int32) then (gd_ (in_b ((x3 * (4 : Int32)) + (x2 >>> ((6 : Int32) &&& 31))) 84) (gd_ (in_b ((x3 * (4 : Int32)) + (x2 >>> ((6 : Int32) &&& 31))) 84) (L_X1_openAll_48 t_low t_width p1_settings k_18 n_ (vp_updL t_open ((x3 * (4 : Int32)) + (x2 >>> ((6 : Int32) &&& 31))).toNatClampNeg ((t_open ((x3 * (4 : Int32)) + (x2 >>> ((6 : Int32) &&& 31))).toNatClampNeg) ||| ((1 : Int64) <<< (((x2 &&& (63 : Int32))).toInt64 &&& 63)))) t_all x2 (x3 + (1 : Int32))))) else (L_X1_openAll_48 t_low t_width p1_settings k_18 n_ t_open t_all x2 (x3 + (1 : Int32)))))
set_option maxHeartbeats 4000000 in
set_option maxRecDepth 100000 in
theorem w_X1_openAll_48 {p : Program} {l : Launch} {e : Env} {s : State} {m : MethodId} {args : Array Value} {below : List Frame} {meth : Method} {c : Code} {D : va_G} {K : Nat → ClassId} {A : Nat → Prop} {Q : State → Prop} (C0 : cx_ p s m args c cX1_openAll 4 RX1 wsX1_openAll D K A) {g_t : Nat → Nat} {g_p1 : Nat → Nat} {t_size : Int32} {t_low : Int32} {t_width : Int32} {t_limit : Int32} {t_needed : Int32} {t_parts : Int32} {t_leastSum : Int32} {t_fitCount : Int32} {p1_gapCount : Int32} {p1_targetCount : Int32} {p1_lookCount : Int32} {p1_time : Int32} {p1_gone : Int32} {p1_settings : Nat → Int32} {res : (Nat → Int64) × (Nat → Int64)} (HR : ∀ (pc : Nat) (H : Heap) (locs : List Loc) (ls : Array Slot), decode cX1_openAll pc = .ok (.return_, 1) → va_P D vwCl (w_X1_openAll K g_t g_p1 t_size t_low t_width t_limit t_needed t_parts t_leastSum t_fitCount res.1 res.2 p1_gapCount p1_targetCount p1_lookCount p1_time p1_gone p1_settings) H → va_D A (w_X1_openAll K g_t g_p1 t_size t_low t_width t_limit t_needed t_parts t_leastSum t_fitCount res.1 res.2 p1_gapCount p1_targetCount p1_lookCount p1_time p1_gone p1_settings) → va_S A s.heap H locs → W p l e rmX1_openAll s m args below meth c H locs 0 0 Q (F0 m pc ls [])) {k_18 : (Nat → Int64) → (Nat → Int64) → Int32 → Option ((Nat → Int64) × (Nat → Int64))} (HK_18 : ∀ (t_open : Nat → Int64) (t_all : Nat → Int64) (x2 : Int32) (H : Heap) (locs : List Loc) (ls : Array Slot), va_P D vwCl (w_X1_openAll K g_t g_p1 t_size t_low t_width t_limit t_needed t_parts t_leastSum t_fitCount t_open t_all p1_gapCount p1_targetCount p1_lookCount p1_time p1_gone p1_settings) H → va_D A (w_X1_openAll K g_t g_p1 t_size t_low t_width t_limit t_needed t_parts t_leastSum t_fitCount t_open t_all p1_gapCount p1_targetCount p1_lookCount p1_time p1_gone p1_settings) → va_S A s.heap H locs → lv_has ls 4 [(0, .ref (g_t 0)), (1, .ref (g_p1 0)), (2, .int x2)] → k_18 t_open t_all x2 = some res → W p l e rmX1_openAll s m args below meth c H locs 0 0 Q (F0 m 18 ls [])) :
    ∀ (n_ : Nat) (t_open : Nat → Int64) (t_all : Nat → Int64) (x2 : Int32) (x3 : Int32) (H : Heap) (locs : List Loc) (ls : Array Slot), va_P D vwCl (w_X1_openAll K g_t g_p1 t_size t_low t_width t_limit t_needed t_parts t_leastSum t_fitCount t_open t_all p1_gapCount p1_targetCount p1_lookCount p1_time p1_gone p1_settings) H → va_D A (w_X1_openAll K g_t g_p1 t_size t_low t_width t_limit t_needed t_parts t_leastSum t_fitCount t_open t_all p1_gapCount p1_targetCount p1_lookCount p1_time p1_gone p1_settings) → va_S A s.heap H locs → lv_has ls 4 [(0, .ref (g_t 0)), (1, .ref (g_p1 0)), (2, .int x2), (3, .int x3)] → L_X1_openAll_48 t_low t_width p1_settings k_18 n_ t_open t_all x2 x3 = some res → W p l e rmX1_openAll s m args below meth c H locs 0 0 Q (F0 m 48 ls []) := by
  obtain ⟨⟨hx, hb, hml, hown, hts⟩, hK, -⟩ := id C0
  intro n_
  induction n_ with
  | zero =>
    intro t_open t_all x2 x3 H locs ls hP hD hS hl hF
    exact no_s (show (none : Option ((Nat → Int64) × (Nat → Int64))) = some res from hF)
  | succ n_ ih =>
    intro t_open t_all x2 x3 H locs ls hP hD hS hl hF
    rw [L_X1_openAll_48] at hF
    refine lv_iload_n hx hb dX1_openAll_48 rfl (lv_at hl 3 rfl) ?_
    refine lv_aload_n hx hb dX1_openAll_49 rfl (lv_at hl 0 rfl) ?_
    refine va_get (D := D) (ci := 1) (v := .int t_width) (C := RX1) (T := TX1) (N := 13) hx hb hts iw_X1_openAll_X1 hown hK hP 0 rfl rfl 6 (by decide) (hts _ fl_X1_openAll_41) (fun _ h9 => h9) rfl dX1_openAll_50 ?_
    refine lv_icmp_ge (tgt := 100) hx hb dX1_openAll_53 (by decide) (fun c_1 => ?_) (fun c_1 => ?_)
    · have hF := it_pos c_1 hF
      refine lv_iinc (v := (x2 + (1 : Int32))) (lv' := [(2, .int (x2 + (1 : Int32))), (0, .ref (g_t 0)), (1, .ref (g_p1 0)), (3, .int x3)]) hx hb dX1_openAll_100 hl (k := 2) rfl (congrArg (fun z => x2 + z) (by decide)) (by decide) rfl (fun ls hl => ?_)
      refine lv_goto (tgt := 18) hx hb dX1_openAll_103 (by decide) ?_
      exact HK_18 t_open t_all (x2 + (1 : Int32)) H locs ls hP hD hS (lv_sub hl [1, 2, 0] rfl) hF
    · have hF := it_neg c_1 hF
      refine lv_aload_n hx hb dX1_openAll_56 rfl (lv_at hl 1 rfl) ?_
      refine lv_iload_n hx hb dX1_openAll_57 rfl (lv_at hl 2 rfl) ?_
      refine lv_iconst (v := 1) hx hb dX1_openAll_58 (by decide) ?_
      refine lv_iadd hx hb dX1_openAll_59 ?_
      refine lv_aload_n hx hb dX1_openAll_60 rfl (lv_at hl 0 rfl) ?_
      refine va_get (D := D) (ci := 1) (v := .int t_low) (C := RX1) (T := TX1) (N := 13) hx hb hts iw_X1_openAll_X1 hown hK hP 0 rfl rfl 5 (by decide) (hts _ fl_X1_openAll_32) (fun _ h9 => h9) rfl dX1_openAll_61 ?_
      refine lv_iload_n hx hb dX1_openAll_64 rfl (lv_at hl 3 rfl) ?_
      refine lv_iadd hx hb dX1_openAll_65 ?_
      obtain ⟨r_2, hc_3, hF⟩ := bn_some hF
      refine xc_i (wn := (w_X1_openAll K g_t g_p1 t_size t_low t_width t_limit t_needed t_parts t_leastSum t_fitCount t_open t_all p1_gapCount p1_targetCount p1_lookCount p1_time p1_gone p1_settings)) hP hD hS C0.2.2.1 [3, 4] [0, 1, 2] [0, 1, 2, 3, 4] rfl rfl (by decide) (by decide) rfl (by decide) (va_runV (As := [.int (x2 + (1 : Int32)), .int (t_low + x3)]) (rest := []) C0.1 (c_X5_hides l D K g_p1 p1_gapCount p1_targetCount p1_lookCount p1_time p1_gone p1_settings (x2 + (1 : Int32)) (t_low + x3) r_2 hc_3 H.size) (cwV 2 hts gX1_openAll_X5_hides rfl rfl rfl (by decide +kernel) ⟨Nat.le_of_ble_eq_true rfl, Nat.le_of_ble_eq_true rfl⟩) (xp_V C0.2 hP hD hS [3, 4] rfl (by decide) 5 0 rfl rfl rfl) rfl rfl hl.1 rfl (lv_room (Nat.le_of_ble_eq_true rfl)) dX1_openAll_66 ⟨Nat.le_of_ble_eq_true rfl, Nat.le_of_ble_eq_true rfl⟩) (fun H locs hP hD hS => ?_)
      refine lv_if_ne (tgt := 94) hx hb dX1_openAll_69 (by decide) (fun c_4 => ?_) (fun c_4 => ?_)
      · have hF := it_neg c_4 hF
        refine lv_iinc (v := (x3 + (1 : Int32))) (lv' := [(3, .int (x3 + (1 : Int32))), (0, .ref (g_t 0)), (1, .ref (g_p1 0)), (2, .int x2)]) hx hb dX1_openAll_94 hl (k := 3) rfl (congrArg (fun z => x3 + z) (by decide)) (by decide) rfl (fun ls hl => ?_)
        refine lv_goto (tgt := 48) hx hb dX1_openAll_97 (by decide) ?_
        exact ih t_open t_all x2 (x3 + (1 : Int32)) H locs ls hP hD hS (lv_sub hl [1, 2, 3, 0] rfl) hF
      · have hF := it_pos c_4 hF
        refine lv_aload_n hx hb dX1_openAll_72 rfl (lv_at hl 0 rfl) ?_
        refine va_get (D := D) (ci := 1) (v := .ref (g_t 1)) (C := RX1) (T := TX1) (N := 13) hx hb hts iw_X1_openAll_X1 hown hK hP 0 rfl rfl 0 (by decide) (hts _ fl_X1_openAll_11) (fun _ h9 => h9) rfl dX1_openAll_73 ?_
        refine lv_iload_n hx hb dX1_openAll_76 rfl (lv_at hl 3 rfl) ?_
        refine lv_iconst (v := 4) hx hb dX1_openAll_77 (by decide) ?_
        refine lv_imul hx hb dX1_openAll_78 ?_
        refine lv_iload_n hx hb dX1_openAll_79 rfl (lv_at hl 2 rfl) ?_
        refine lv_bipush (v := 6) hx hb dX1_openAll_80 (by decide) ?_
        refine lv_ishr hx hb dX1_openAll_82 ?_
        refine lv_iadd hx hb dX1_openAll_83 ?_
        refine lv_dup2_11 hx hb dX1_openAll_84 rfl rfl ?_
        obtain ⟨hg_5, hF⟩ := gd_some hF
        refine xl_l (f := t_open) hx hb hK hP 1 1 rfl rfl rfl (in_v hg_5) dX1_openAll_85 ?_
        refine lv_lconst (v := 1) hx hb dX1_openAll_86 (by decide) ?_
        refine lv_iload_n hx hb dX1_openAll_87 rfl (lv_at hl 2 rfl) ?_
        refine lv_bipush (v := 63) hx hb dX1_openAll_88 (by decide) ?_
        refine lv_iand hx hb dX1_openAll_90 ?_
        refine lv_lshl hx hb dX1_openAll_91 rfl ?_
        refine lv_lor hx hb dX1_openAll_92 ?_
        obtain ⟨hg_6, hF⟩ := gd_some hF
        refine xs_l (f := t_open) hx hb hK hP hD hS 1 1 rfl rfl rfl (in_v hg_6) dX1_openAll_93 (fun H locs hP hD hS => ?_)
        have hP : va_P D vwCl (w_X1_openAll K g_t g_p1 t_size t_low t_width t_limit t_needed t_parts t_leastSum t_fitCount (vp_updL t_open ((x3 * (4 : Int32)) + (x2 >>> ((6 : Int32) &&& 31))).toNatClampNeg ((t_open ((x3 * (4 : Int32)) + (x2 >>> ((6 : Int32) &&& 31))).toNatClampNeg) ||| ((1 : Int64) <<< (((x2 &&& (63 : Int32))).toInt64 &&& 63)))) t_all p1_gapCount p1_targetCount p1_lookCount p1_time p1_gone p1_settings) H := hP
        have hD : va_D A (w_X1_openAll K g_t g_p1 t_size t_low t_width t_limit t_needed t_parts t_leastSum t_fitCount (vp_updL t_open ((x3 * (4 : Int32)) + (x2 >>> ((6 : Int32) &&& 31))).toNatClampNeg ((t_open ((x3 * (4 : Int32)) + (x2 >>> ((6 : Int32) &&& 31))).toNatClampNeg) ||| ((1 : Int64) <<< (((x2 &&& (63 : Int32))).toInt64 &&& 63)))) t_all p1_gapCount p1_targetCount p1_lookCount p1_time p1_gone p1_settings) := hD
        refine lv_iinc (v := (x3 + (1 : Int32))) (lv' := [(3, .int (x3 + (1 : Int32))), (0, .ref (g_t 0)), (1, .ref (g_p1 0)), (2, .int x2)]) hx hb dX1_openAll_94 hl (k := 3) rfl (congrArg (fun z => x3 + z) (by decide)) (by decide) rfl (fun ls hl => ?_)
        refine lv_goto (tgt := 48) hx hb dX1_openAll_97 (by decide) ?_
        exact ih (vp_updL t_open ((x3 * (4 : Int32)) + (x2 >>> ((6 : Int32) &&& 31))).toNatClampNeg ((t_open ((x3 * (4 : Int32)) + (x2 >>> ((6 : Int32) &&& 31))).toNatClampNeg) ||| ((1 : Int64) <<< (((x2 &&& (63 : Int32))).toInt64 &&& 63)))) t_all x2 (x3 + (1 : Int32)) H locs ls hP hD hS (lv_sub hl [1, 2, 3, 0] rfl) hF
def L_X1_openAll_18 (t_low : Int32) (t_width : Int32) (p1_settings : Nat → Int32) : Nat → (Nat → Int64) → (Nat → Int64) → Int32 → Option ((Nat → Int64) × (Nat → Int64))
  | 0, _, _, _ => none
  | n_ + 1, t_open, t_all, x2 =>
    if (p1_settings 5) ≤ x2 then (some (t_open, t_all)) else (gd_ (in_b (x2 >>> ((6 : Int32) &&& 31)) 4) (gd_ (in_b (x2 >>> ((6 : Int32) &&& 31)) 4) (L_X1_openAll_48 t_low t_width p1_settings (L_X1_openAll_18 t_low t_width p1_settings n_) fu_ t_open (vp_updL t_all (x2 >>> ((6 : Int32) &&& 31)).toNatClampNeg ((t_all (x2 >>> ((6 : Int32) &&& 31)).toNatClampNeg) ||| ((1 : Int64) <<< (((x2 &&& (63 : Int32))).toInt64 &&& 63)))) x2 (0 : Int32))))
set_option maxHeartbeats 4000000 in
set_option maxRecDepth 100000 in
theorem w_X1_openAll_18 {p : Program} {l : Launch} {e : Env} {s : State} {m : MethodId} {args : Array Value} {below : List Frame} {meth : Method} {c : Code} {D : va_G} {K : Nat → ClassId} {A : Nat → Prop} {Q : State → Prop} (C0 : cx_ p s m args c cX1_openAll 4 RX1 wsX1_openAll D K A) {g_t : Nat → Nat} {g_p1 : Nat → Nat} {t_size : Int32} {t_low : Int32} {t_width : Int32} {t_limit : Int32} {t_needed : Int32} {t_parts : Int32} {t_leastSum : Int32} {t_fitCount : Int32} {p1_gapCount : Int32} {p1_targetCount : Int32} {p1_lookCount : Int32} {p1_time : Int32} {p1_gone : Int32} {p1_settings : Nat → Int32} {res : (Nat → Int64) × (Nat → Int64)} (HR : ∀ (pc : Nat) (H : Heap) (locs : List Loc) (ls : Array Slot), decode cX1_openAll pc = .ok (.return_, 1) → va_P D vwCl (w_X1_openAll K g_t g_p1 t_size t_low t_width t_limit t_needed t_parts t_leastSum t_fitCount res.1 res.2 p1_gapCount p1_targetCount p1_lookCount p1_time p1_gone p1_settings) H → va_D A (w_X1_openAll K g_t g_p1 t_size t_low t_width t_limit t_needed t_parts t_leastSum t_fitCount res.1 res.2 p1_gapCount p1_targetCount p1_lookCount p1_time p1_gone p1_settings) → va_S A s.heap H locs → W p l e rmX1_openAll s m args below meth c H locs 0 0 Q (F0 m pc ls []))  :
    ∀ (n_ : Nat) (t_open : Nat → Int64) (t_all : Nat → Int64) (x2 : Int32) (H : Heap) (locs : List Loc) (ls : Array Slot), va_P D vwCl (w_X1_openAll K g_t g_p1 t_size t_low t_width t_limit t_needed t_parts t_leastSum t_fitCount t_open t_all p1_gapCount p1_targetCount p1_lookCount p1_time p1_gone p1_settings) H → va_D A (w_X1_openAll K g_t g_p1 t_size t_low t_width t_limit t_needed t_parts t_leastSum t_fitCount t_open t_all p1_gapCount p1_targetCount p1_lookCount p1_time p1_gone p1_settings) → va_S A s.heap H locs → lv_has ls 4 [(0, .ref (g_t 0)), (1, .ref (g_p1 0)), (2, .int x2)] → L_X1_openAll_18 t_low t_width p1_settings n_ t_open t_all x2 = some res → W p l e rmX1_openAll s m args below meth c H locs 0 0 Q (F0 m 18 ls []) := by
  obtain ⟨⟨hx, hb, hml, hown, hts⟩, hK, -⟩ := id C0
  intro n_
  induction n_ with
  | zero =>
    intro t_open t_all x2 H locs ls hP hD hS hl hF
    exact no_s (show (none : Option ((Nat → Int64) × (Nat → Int64))) = some res from hF)
  | succ n_ ih =>
    intro t_open t_all x2 H locs ls hP hD hS hl hF
    rw [L_X1_openAll_18] at hF
    refine lv_iload_n hx hb dX1_openAll_18 rfl (lv_at hl 2 rfl) ?_
    refine lv_aload_n hx hb dX1_openAll_19 rfl (lv_at hl 1 rfl) ?_
    refine va_get (D := D) (ci := 5) (v := .ref (g_p1 2)) (C := RX5) (T := TX5) (N := 13) hx hb hts iw_X1_openAll_X5 hown hK hP 3 rfl rfl 1 (by decide) (hts _ fl_X1_openAll_44) (fun _ h9 => h9) rfl dX1_openAll_20 ?_
    refine lv_iconst (v := 5) hx hb dX1_openAll_23 (by decide) ?_
    refine xl_i (f := p1_settings) hx hb hK hP 4 0 rfl rfl (k := 5) (by decide) (in_v (by decide)) dX1_openAll_24 ?_
    refine lv_icmp_ge (tgt := 106) hx hb dX1_openAll_25 (by decide) (fun c_1 => ?_) (fun c_1 => ?_)
    · have hF := it_pos c_1 hF
      obtain rfl := Option.some.inj hF
      exact HR 106 H locs ls dX1_openAll_106 hP hD hS
    · have hF := it_neg c_1 hF
      refine lv_aload_n hx hb dX1_openAll_28 rfl (lv_at hl 0 rfl) ?_
      refine va_get (D := D) (ci := 1) (v := .ref (g_t 3)) (C := RX1) (T := TX1) (N := 13) hx hb hts iw_X1_openAll_X1 hown hK hP 0 rfl rfl 2 (by decide) (hts _ fl_X1_openAll_18) (fun _ h9 => h9) rfl dX1_openAll_29 ?_
      refine lv_iload_n hx hb dX1_openAll_32 rfl (lv_at hl 2 rfl) ?_
      refine lv_bipush (v := 6) hx hb dX1_openAll_33 (by decide) ?_
      refine lv_ishr hx hb dX1_openAll_35 ?_
      refine lv_dup2_11 hx hb dX1_openAll_36 rfl rfl ?_
      obtain ⟨hg_2, hF⟩ := gd_some hF
      refine xl_l (f := t_all) hx hb hK hP 2 1 rfl rfl rfl (in_v hg_2) dX1_openAll_37 ?_
      refine lv_lconst (v := 1) hx hb dX1_openAll_38 (by decide) ?_
      refine lv_iload_n hx hb dX1_openAll_39 rfl (lv_at hl 2 rfl) ?_
      refine lv_bipush (v := 63) hx hb dX1_openAll_40 (by decide) ?_
      refine lv_iand hx hb dX1_openAll_42 ?_
      refine lv_lshl hx hb dX1_openAll_43 rfl ?_
      refine lv_lor hx hb dX1_openAll_44 ?_
      obtain ⟨hg_3, hF⟩ := gd_some hF
      refine xs_l (f := t_all) hx hb hK hP hD hS 2 1 rfl rfl rfl (in_v hg_3) dX1_openAll_45 (fun H locs hP hD hS => ?_)
      have hP : va_P D vwCl (w_X1_openAll K g_t g_p1 t_size t_low t_width t_limit t_needed t_parts t_leastSum t_fitCount t_open (vp_updL t_all (x2 >>> ((6 : Int32) &&& 31)).toNatClampNeg ((t_all (x2 >>> ((6 : Int32) &&& 31)).toNatClampNeg) ||| ((1 : Int64) <<< (((x2 &&& (63 : Int32))).toInt64 &&& 63)))) p1_gapCount p1_targetCount p1_lookCount p1_time p1_gone p1_settings) H := hP
      have hD : va_D A (w_X1_openAll K g_t g_p1 t_size t_low t_width t_limit t_needed t_parts t_leastSum t_fitCount t_open (vp_updL t_all (x2 >>> ((6 : Int32) &&& 31)).toNatClampNeg ((t_all (x2 >>> ((6 : Int32) &&& 31)).toNatClampNeg) ||| ((1 : Int64) <<< (((x2 &&& (63 : Int32))).toInt64 &&& 63)))) p1_gapCount p1_targetCount p1_lookCount p1_time p1_gone p1_settings) := hD
      refine lv_iconst (v := 0) hx hb dX1_openAll_46 (by decide) ?_
      refine lv_istore_n (lv' := [(3, .int (0 : Int32)), (0, .ref (g_t 0)), (1, .ref (g_p1 0)), (2, .int x2)]) hx hb dX1_openAll_47 rfl hl (by decide) rfl (fun ls hl => ?_)
      exact w_X1_openAll_48 C0 HR ih fu_ t_open (vp_updL t_all (x2 >>> ((6 : Int32) &&& 31)).toNatClampNeg ((t_all (x2 >>> ((6 : Int32) &&& 31)).toNatClampNeg) ||| ((1 : Int64) <<< (((x2 &&& (63 : Int32))).toInt64 &&& 63)))) x2 (0 : Int32) H locs ls hP hD hS (lv_sub hl [1, 2, 3, 0] rfl) hF
def F_X1_openAll (t_low : Int32) (t_width : Int32) (t_open : Nat → Int64) (t_all : Nat → Int64) (p1_settings : Nat → Int32) : Option ((Nat → Int64) × (Nat → Int64)) :=
  (F_J7_fill_d0a16 t_all 4 (0 : Int64)).bind fun r_1 => ((F_J7_fill_d0a16 t_open 84 (0 : Int64)).bind fun r_3 => (L_X1_openAll_18 t_low t_width p1_settings fu_ r_3 r_1 (0 : Int32)))
set_option maxHeartbeats 4000000 in
set_option maxRecDepth 100000 in
theorem c_X1_openAll (l : Launch) (D : va_G) (K : Nat → ClassId) (g_t : Nat → Nat) (g_p1 : Nat → Nat) (t_size : Int32) (t_low : Int32) (t_width : Int32) (t_limit : Int32) (t_needed : Int32) (t_parts : Int32) (t_leastSum : Int32) (t_fitCount : Int32) (t_open : Nat → Int64) (t_all : Nat → Int64) (p1_gapCount : Int32) (p1_targetCount : Int32) (p1_lookCount : Int32) (p1_time : Int32) (p1_gone : Int32) (p1_settings : Nat → Int32) (res : (Nat → Int64) × (Nat → Int64)) (hF : F_X1_openAll t_low t_width t_open t_all p1_settings = some res) :
    Mv_ l yX1_openAll wsX1_openAll rmX1_openAll D K [.ref (g_t 0), .ref (g_p1 0)] (w_X1_openAll K g_t g_p1 t_size t_low t_width t_limit t_needed t_parts t_leastSum t_fitCount t_open t_all p1_gapCount p1_targetCount p1_lookCount p1_time p1_gone p1_settings) (w_X1_openAll K g_t g_p1 t_size t_low t_width t_limit t_needed t_parts t_leastSum t_fitCount res.1 res.2 p1_gapCount p1_targetCount p1_lookCount p1_time p1_gone p1_settings) := by
  refine en_v (cc := cX1_openAll) (maxL := 4) (own := RX1) (by decide) rfl rfl (Nat.le_of_ble_eq_true rfl) ?_
  intro p e s m args below meth c A Q H locs ls C0 hP hD hS hl HR
  obtain ⟨⟨hx, hb, hml, hown, hts⟩, hK, -⟩ := id C0
  have hl : lv_has ls 4 [(0, .ref (g_t 0)), (1, .ref (g_p1 0))] := hl
  unfold F_X1_openAll at hF
  refine lv_aload_n hx hb dX1_openAll_0 rfl (lv_at hl 0 rfl) ?_
  refine va_get (D := D) (ci := 1) (v := .ref (g_t 3)) (C := RX1) (T := TX1) (N := 13) hx hb hts iw_X1_openAll_X1 hown hK hP 0 rfl rfl 2 (by decide) (hts _ fl_X1_openAll_18) (fun _ h9 => h9) rfl dX1_openAll_1 ?_
  refine lv_lconst (v := 0) hx hb dX1_openAll_4 (by decide) ?_
  obtain ⟨r_1, hc_2, hF⟩ := bn_some hF
  refine xc_v (wn := (w_X1_openAll K g_t g_p1 t_size t_low t_width t_limit t_needed t_parts t_leastSum t_fitCount t_open r_1 p1_gapCount p1_targetCount p1_lookCount p1_time p1_gone p1_settings)) hP hD hS C0.2.2.1 [2] [0, 1, 3, 4] [0, 1, 4, 2, 3] rfl rfl (by decide) (by decide) rfl (by decide) (va_runS (As := [.ref (g_t 3), .long (0 : Int64)]) (rest := []) C0.1 (c_J7_fill_d0a16 l D K (g_t 3) 4 t_all (0 : Int64) r_1 hc_2 H.size) (va_cwS 2 hts gX1_openAll_J7_fill_d0a16 rfl rfl rfl (by decide +kernel) ⟨Nat.le_of_ble_eq_true rfl, Nat.le_of_ble_eq_true rfl⟩) (xp_S C0.2 hP hD hS [2] rfl (by decide)) rfl rfl hl.1 rfl (lv_room (Nat.le_of_ble_eq_true rfl)) dX1_openAll_5 ⟨Nat.le_of_ble_eq_true rfl, Nat.le_of_ble_eq_true rfl⟩) (fun H locs hP hD hS => ?_)
  refine lv_aload_n hx hb dX1_openAll_8 rfl (lv_at hl 0 rfl) ?_
  refine va_get (D := D) (ci := 1) (v := .ref (g_t 1)) (C := RX1) (T := TX1) (N := 13) hx hb hts iw_X1_openAll_X1 hown hK hP 0 rfl rfl 0 (by decide) (hts _ fl_X1_openAll_11) (fun _ h9 => h9) rfl dX1_openAll_9 ?_
  refine lv_lconst (v := 0) hx hb dX1_openAll_12 (by decide) ?_
  obtain ⟨r_3, hc_4, hF⟩ := bn_some hF
  refine xc_v (wn := (w_X1_openAll K g_t g_p1 t_size t_low t_width t_limit t_needed t_parts t_leastSum t_fitCount r_3 r_1 p1_gapCount p1_targetCount p1_lookCount p1_time p1_gone p1_settings)) hP hD hS C0.2.2.1 [1] [0, 2, 3, 4] [0, 4, 1, 2, 3] rfl rfl (by decide) (by decide) rfl (by decide) (va_runS (As := [.ref (g_t 1), .long (0 : Int64)]) (rest := []) C0.1 (c_J7_fill_d0a16 l D K (g_t 1) 84 t_open (0 : Int64) r_3 hc_4 H.size) (va_cwS 2 hts gX1_openAll_J7_fill_d0a16 rfl rfl rfl (by decide +kernel) ⟨Nat.le_of_ble_eq_true rfl, Nat.le_of_ble_eq_true rfl⟩) (xp_S C0.2 hP hD hS [1] rfl (by decide)) rfl rfl hl.1 rfl (lv_room (Nat.le_of_ble_eq_true rfl)) dX1_openAll_13 ⟨Nat.le_of_ble_eq_true rfl, Nat.le_of_ble_eq_true rfl⟩) (fun H locs hP hD hS => ?_)
  refine lv_iconst (v := 0) hx hb dX1_openAll_16 (by decide) ?_
  refine lv_istore_n (lv' := [(2, .int (0 : Int32)), (0, .ref (g_t 0)), (1, .ref (g_p1 0))]) hx hb dX1_openAll_17 rfl hl (by decide) rfl (fun ls hl => ?_)
  exact w_X1_openAll_18 C0 HR fu_ r_3 r_1 (0 : Int32) H locs ls hP hD hS (lv_sub hl [1, 2, 0] rfl) hF
