/-! StaggerRadar.nextAtPlace(IIII)I -/
abbrev rmX10_nextAtPlace : Room := { frames := 0, cells := 0, slots := 0, locals := 0 }
abbrev w_X10_nextAtPlace (K : Nat → ClassId) : va_W := []
def L_X10_nextAtPlace_7  : Nat → Int32 → Int32 → Int32 → Int64 → Int32 → Option (Int32)
  | 0, _, _, _, _, _ => none
  | n_ + 1, x1, x2, x3, x4, x6 =>
    if x2 ≤ x6 then (some (-1 : Int32)) else (gd_ (decide (¬ (x2).toInt64 = 0)) (if (lg_cmp (x4 - x4 / (x2).toInt64 * (x2).toInt64) ((x3).toInt64)) = (0 : Int32) then (some ((x4).toInt32)) else (L_X10_nextAtPlace_7 n_ x1 x2 x3 (x4 + (x1).toInt64) (x6 + (1 : Int32)))))
set_option maxHeartbeats 4000000 in
set_option maxRecDepth 100000 in
theorem w_X10_nextAtPlace_7 {p : Program} {l : Launch} {e : Env} {s : State} {m : MethodId} {args : Array Value} {below : List Frame} {meth : Method} {c : Code} {D : va_G} {K : Nat → ClassId} {A : Nat → Prop} {Q : State → Prop} (C0 : cx_ p s m args c cX10_nextAtPlace 7 RX10 wsX10_nextAtPlace D K A)   {res : Int32} (HR : ∀ (pc : Nat) (H : Heap) (locs : List Loc) (ls : Array Slot), decode cX10_nextAtPlace pc = .ok (.ireturn, 1) → va_P D vwCl (w_X10_nextAtPlace K) H → va_D A (w_X10_nextAtPlace K) → va_S A s.heap H locs → W p l e rmX10_nextAtPlace s m args below meth c H locs 0 0 Q (F0 m pc ls [.int res]))  :
    ∀ (n_ : Nat) (x1 : Int32) (x2 : Int32) (x3 : Int32) (x4 : Int64) (x6 : Int32) (H : Heap) (locs : List Loc) (ls : Array Slot), va_P D vwCl (w_X10_nextAtPlace K) H → va_D A (w_X10_nextAtPlace K) → va_S A s.heap H locs → lv_has ls 7 [(1, .int x1), (2, .int x2), (3, .int x3), (4, .long x4), (6, .int x6)] → L_X10_nextAtPlace_7 n_ x1 x2 x3 x4 x6 = some res → W p l e rmX10_nextAtPlace s m args below meth c H locs 0 0 Q (F0 m 7 ls []) := by
  obtain ⟨⟨hx, hb, hml, hown, hts⟩, hK, -⟩ := id C0
  intro n_
  induction n_ with
  | zero =>
    intro x1 x2 x3 x4 x6 H locs ls hP hD hS hl hF
    exact no_s (show (none : Option (Int32)) = some res from hF)
  | succ n_ ih =>
    intro x1 x2 x3 x4 x6 H locs ls hP hD hS hl hF
    rw [L_X10_nextAtPlace_7] at hF
    refine lv_iload hx hb dX10_nextAtPlace_7 (lv_at hl 4 rfl) ?_
    refine lv_iload_n hx hb dX10_nextAtPlace_9 rfl (lv_at hl 1 rfl) ?_
    refine lv_icmp_ge (tgt := 41) hx hb dX10_nextAtPlace_10 (by decide) (fun c_1 => ?_) (fun c_1 => ?_)
    · have hF := it_pos c_1 hF
      refine lv_iconst (v := (-1)) hx hb dX10_nextAtPlace_41 (by decide) ?_
      obtain rfl := Option.some.inj hF
      exact HR 42 H locs ls dX10_nextAtPlace_42 hP hD hS
    · have hF := it_neg c_1 hF
      refine lv_lload hx hb dX10_nextAtPlace_13 (lv_at hl 3 rfl) ?_
      refine lv_iload_n hx hb dX10_nextAtPlace_15 rfl (lv_at hl 1 rfl) ?_
      refine lv_i2l hx hb dX10_nextAtPlace_16 rfl ?_
      obtain ⟨hg_2, hF⟩ := gd_some hF
      refine lv_lrem hx hb dX10_nextAtPlace_17 (nl_of hg_2) ?_
      refine lv_iload_n hx hb dX10_nextAtPlace_18 rfl (lv_at hl 2 rfl) ?_
      refine lv_i2l hx hb dX10_nextAtPlace_19 rfl ?_
      refine W.lcmp hx hb dX10_nextAtPlace_20 ?_
      refine lv_if_ne (tgt := 28) hx hb dX10_nextAtPlace_21 (by decide) (fun c_3 => ?_) (fun c_3 => ?_)
      · have hF := it_neg c_3 hF
        refine lv_lload hx hb dX10_nextAtPlace_28 (lv_at hl 3 rfl) ?_
        refine lv_iload_n hx hb dX10_nextAtPlace_30 rfl (lv_at hl 0 rfl) ?_
        refine lv_i2l hx hb dX10_nextAtPlace_31 rfl ?_
        refine lv_ladd hx hb dX10_nextAtPlace_32 ?_
        refine lv_lstore (lv' := [(4, .long (x4 + (x1).toInt64)), (1, .int x1), (2, .int x2), (3, .int x3), (6, .int x6)]) hx hb dX10_nextAtPlace_33 hl (by decide) rfl (fun ls hl => ?_)
        refine lv_iinc (v := (x6 + (1 : Int32))) (lv' := [(6, .int (x6 + (1 : Int32))), (4, .long (x4 + (x1).toInt64)), (1, .int x1), (2, .int x2), (3, .int x3)]) hx hb dX10_nextAtPlace_35 hl (k := 4) rfl (congrArg (fun z => x6 + z) (by decide)) (by decide) rfl (fun ls hl => ?_)
        refine lv_goto (tgt := 7) hx hb dX10_nextAtPlace_38 (by decide) ?_
        exact ih x1 x2 x3 (x4 + (x1).toInt64) (x6 + (1 : Int32)) H locs ls hP hD hS (lv_sub hl [2, 3, 4, 1, 0] rfl) hF
      · have hF := it_pos c_3 hF
        refine lv_lload hx hb dX10_nextAtPlace_24 (lv_at hl 3 rfl) ?_
        refine lv_l2i hx hb dX10_nextAtPlace_26 rfl ?_
        obtain rfl := Option.some.inj hF
        exact HR 27 H locs ls dX10_nextAtPlace_27 hP hD hS
def F_X10_nextAtPlace (x0 : Int32) (x1 : Int32) (x2 : Int32) (x3 : Int32) : Option (Int32) :=
  L_X10_nextAtPlace_7 fu_ x1 x2 x3 ((x0).toInt64) (0 : Int32)
set_option maxHeartbeats 4000000 in
set_option maxRecDepth 100000 in
theorem c_X10_nextAtPlace (l : Launch) (D : va_G) (K : Nat → ClassId) (x0 : Int32) (x1 : Int32) (x2 : Int32) (x3 : Int32) (res : Int32) (hF : F_X10_nextAtPlace x0 x1 x2 x3 = some res) :
    Mi_ l yX10_nextAtPlace wsX10_nextAtPlace rmX10_nextAtPlace D K [.int x0, .int x1, .int x2, .int x3] (w_X10_nextAtPlace K) (w_X10_nextAtPlace K) (res) := by
  refine en_i (cc := cX10_nextAtPlace) (maxL := 7) (own := RX10) (by decide) rfl rfl (Nat.le_of_ble_eq_true rfl) ?_
  intro p e s m args below meth c A Q H locs ls C0 hP hD hS hl HR
  obtain ⟨⟨hx, hb, hml, hown, hts⟩, hK, -⟩ := id C0
  have hl : lv_has ls 7 [(0, .int x0), (1, .int x1), (2, .int x2), (3, .int x3)] := hl
  unfold F_X10_nextAtPlace at hF
  refine lv_iload_n hx hb dX10_nextAtPlace_0 rfl (lv_at hl 0 rfl) ?_
  refine lv_i2l hx hb dX10_nextAtPlace_1 rfl ?_
  refine lv_lstore (lv' := [(4, .long ((x0).toInt64)), (0, .int x0), (1, .int x1), (2, .int x2), (3, .int x3)]) hx hb dX10_nextAtPlace_2 hl (by decide) rfl (fun ls hl => ?_)
  refine lv_iconst (v := 0) hx hb dX10_nextAtPlace_4 (by decide) ?_
  refine lv_istore (lv' := [(6, .int (0 : Int32)), (4, .long ((x0).toInt64)), (0, .int x0), (1, .int x1), (2, .int x2), (3, .int x3)]) hx hb dX10_nextAtPlace_5 hl (by decide) rfl (fun ls hl => ?_)
  exact w_X10_nextAtPlace_7 C0 HR fu_ x1 x2 x3 ((x0).toInt64) (0 : Int32) H locs ls hP hD hS (lv_sub hl [3, 4, 5, 1, 0] rfl) hF

/-! StaggerRadar.joined(IIIII)I -/
abbrev rmX10_joined : Room := { frames := 2, cells := 0, slots := 0, locals := 47 }
theorem fl_X10_joined_10 : Cond.fieldLink RX10 10 "StaggerRadar" "radar" "LStaggerRadar$Radar;" ∈ wsX10_joined := by decide +kernel
theorem fl_X10_joined_87 : Cond.fieldLink RX10 87 "StaggerRadar" "places" "[I" ∈ wsX10_joined := by decide +kernel
theorem fl_X10_joined_122 : Cond.fieldLink RX10 122 "StaggerRadar$Radar" "gapCount" "I" ∈ wsX10_joined := by decide +kernel
theorem fl_X10_joined_238 : Cond.fieldLink RX10 238 "StaggerRadar$Radar" "gaps" "[I" ∈ wsX10_joined := by decide +kernel
theorem iw_X10_joined_X10 : ∀ w ∈ u_ws RX10 TX10 14, w ∈ wsX10_joined := by decide +kernel
theorem iw_X10_joined_X5 : ∀ w ∈ u_ws RX5 TX5 13, w ∈ wsX10_joined := by decide +kernel
abbrev w_X10_joined (K : Nat → ClassId) (g_t : Nat → Nat) (g_t_radar : Nat → Nat) (g_t_draft : Nat → Nat) (g_t_text : Nat → Nat) (g_t_reader : Nat → Nat) (g_t_history : Nat → Nat) (g_t_echoes : Nat → Nat) (g_t_tracks : Nat → Nat) (g_t_dwelling : Nat → Nat) (g_t_chooser : Nat → Nat) (g_t_adviser : Nat → Nat) (t_radar_gapCount : Int32) (t_radar_targetCount : Int32) (t_radar_lookCount : Int32) (t_radar_time : Int32) (t_radar_gone : Int32) (t_radar_gaps : Nat → Int32) (t_places : Nat → Int32) : va_W := [((g_t 0), .inr (9, [.ref (g_t_radar 0), .ref (g_t_draft 0), .ref (g_t_text 0), .ref (g_t_reader 0), .ref (g_t_history 0), .ref (g_t 6), .ref (g_t 7), .ref (g_t 8), .ref (g_t_echoes 0), .ref (g_t_tracks 0), .ref (g_t_dwelling 0), .ref (g_t_chooser 0), .ref (g_t_adviser 0), .ref (g_t 14)])), ((g_t_radar 0), .inr (5, [.ref (g_t_radar 1), .ref (g_t_radar 2), .ref (g_t_radar 3), .ref (g_t_radar 4), .ref (g_t_radar 5), .ref (g_t_radar 6), .ref (g_t_radar 7), .ref (g_t_radar 8), .int t_radar_gapCount, .int t_radar_targetCount, .int t_radar_lookCount, .int t_radar_time, .int t_radar_gone])), ((g_t_radar 1), .inl (K 0, 5, .inl t_radar_gaps)), ((g_t 14), .inl (K 0, 5, .inl t_places))]
def L_X10_joined_46 (t_radar_gapCount : Int32) (t_radar_gaps : Nat → Int32) : Nat → (Nat → Int32) → Int32 → Int32 → Int32 → Option (Int32 × (Nat → Int32))
  | 0, _, _, _, _ => none
  | n_ + 1, t_places, x6, x7, x8 =>
    if t_radar_gapCount ≤ x8 then (some (x6, t_places)) else (gd_ (in_b x8 5) (if (t_places (x8).toNatClampNeg) < (0 : Int32) then (L_X10_joined_46 t_radar_gapCount t_radar_gaps n_ t_places x6 x7 (x8 + (1 : Int32))) else (gd_ (in_b x8 5) (gd_ (in_b x8 5) ((F_X10_nextAtPlace x6 x7 (t_radar_gaps (x8).toNatClampNeg) (t_places (x8).toNatClampNeg)).bind fun r_6 => (if r_6 = (-1 : Int32) then (some ((-1 : Int32), t_places)) else (gd_ (in_b x8 5) ((F_X10_leastCommon x7 (t_radar_gaps (x8).toNatClampNeg)).bind fun r_10 => (L_X10_joined_46 t_radar_gapCount t_radar_gaps n_ t_places r_6 r_10 (x8 + (1 : Int32)))))))))))
set_option maxHeartbeats 4000000 in
set_option maxRecDepth 100000 in
theorem w_X10_joined_46 {p : Program} {l : Launch} {e : Env} {s : State} {m : MethodId} {args : Array Value} {below : List Frame} {meth : Method} {c : Code} {D : va_G} {K : Nat → ClassId} {A : Nat → Prop} {Q : State → Prop} (C0 : cx_ p s m args c cX10_joined 9 RX10 wsX10_joined D K A) {g_t : Nat → Nat} {g_t_radar : Nat → Nat} {g_t_draft : Nat → Nat} {g_t_text : Nat → Nat} {g_t_reader : Nat → Nat} {g_t_history : Nat → Nat} {g_t_echoes : Nat → Nat} {g_t_tracks : Nat → Nat} {g_t_dwelling : Nat → Nat} {g_t_chooser : Nat → Nat} {g_t_adviser : Nat → Nat} {t_radar_gapCount : Int32} {t_radar_targetCount : Int32} {t_radar_lookCount : Int32} {t_radar_time : Int32} {t_radar_gone : Int32} {t_radar_gaps : Nat → Int32} {res : Int32 × (Nat → Int32)} (HR : ∀ (pc : Nat) (H : Heap) (locs : List Loc) (ls : Array Slot), decode cX10_joined pc = .ok (.ireturn, 1) → va_P D vwCl (w_X10_joined K g_t g_t_radar g_t_draft g_t_text g_t_reader g_t_history g_t_echoes g_t_tracks g_t_dwelling g_t_chooser g_t_adviser t_radar_gapCount t_radar_targetCount t_radar_lookCount t_radar_time t_radar_gone t_radar_gaps res.2) H → va_D A (w_X10_joined K g_t g_t_radar g_t_draft g_t_text g_t_reader g_t_history g_t_echoes g_t_tracks g_t_dwelling g_t_chooser g_t_adviser t_radar_gapCount t_radar_targetCount t_radar_lookCount t_radar_time t_radar_gone t_radar_gaps res.2) → va_S A s.heap H locs → W p l e rmX10_joined s m args below meth c H locs 0 0 Q (F0 m pc ls [.int res.1]))  :
    ∀ (n_ : Nat) (t_places : Nat → Int32) (x6 : Int32) (x7 : Int32) (x8 : Int32) (H : Heap) (locs : List Loc) (ls : Array Slot), va_P D vwCl (w_X10_joined K g_t g_t_radar g_t_draft g_t_text g_t_reader g_t_history g_t_echoes g_t_tracks g_t_dwelling g_t_chooser g_t_adviser t_radar_gapCount t_radar_targetCount t_radar_lookCount t_radar_time t_radar_gone t_radar_gaps t_places) H → va_D A (w_X10_joined K g_t g_t_radar g_t_draft g_t_text g_t_reader g_t_history g_t_echoes g_t_tracks g_t_dwelling g_t_chooser g_t_adviser t_radar_gapCount t_radar_targetCount t_radar_lookCount t_radar_time t_radar_gone t_radar_gaps t_places) → va_S A s.heap H locs → lv_has ls 9 [(0, .ref (g_t 0)), (6, .int x6), (7, .int x7), (8, .int x8)] → L_X10_joined_46 t_radar_gapCount t_radar_gaps n_ t_places x6 x7 x8 = some res → W p l e rmX10_joined s m args below meth c H locs 0 0 Q (F0 m 46 ls []) := by
  obtain ⟨⟨hx, hb, hml, hown, hts⟩, hK, -⟩ := id C0
  intro n_
  induction n_ with
  | zero =>
    intro t_places x6 x7 x8 H locs ls hP hD hS hl hF
    exact no_s (show (none : Option (Int32 × (Nat → Int32))) = some res from hF)
  | succ n_ ih =>
    intro t_places x6 x7 x8 H locs ls hP hD hS hl hF
    rw [L_X10_joined_46] at hF
    refine lv_iload hx hb dX10_joined_46 (lv_at hl 3 rfl) ?_
    refine lv_aload_n hx hb dX10_joined_48 rfl (lv_at hl 0 rfl) ?_
    refine va_get (D := D) (ci := 9) (v := .ref (g_t_radar 0)) (C := RX10) (T := TX10) (N := 14) hx hb hts iw_X10_joined_X10 hown hK hP 0 rfl rfl 0 (by decide) (hts _ fl_X10_joined_10) (fun _ h9 => h9) rfl dX10_joined_49 ?_
    refine va_get (D := D) (ci := 5) (v := .int t_radar_gapCount) (C := RX5) (T := TX5) (N := 13) hx hb hts iw_X10_joined_X5 hown hK hP 1 rfl rfl 8 (by decide) (hts _ fl_X10_joined_122) (fun _ h9 => h9) rfl dX10_joined_52 ?_
    refine lv_icmp_ge (tgt := 125) hx hb dX10_joined_55 (by decide) (fun c_1 => ?_) (fun c_1 => ?_)
    · have hF := it_pos c_1 hF
      refine lv_iload hx hb dX10_joined_125 (lv_at hl 1 rfl) ?_
      obtain rfl := Option.some.inj hF
      exact HR 127 H locs ls dX10_joined_127 hP hD hS
    · have hF := it_neg c_1 hF
      refine lv_aload_n hx hb dX10_joined_58 rfl (lv_at hl 0 rfl) ?_
      refine va_get (D := D) (ci := 9) (v := .ref (g_t 14)) (C := RX10) (T := TX10) (N := 14) hx hb hts iw_X10_joined_X10 hown hK hP 0 rfl rfl 13 (by decide) (hts _ fl_X10_joined_87) (fun _ h9 => h9) rfl dX10_joined_59 ?_
      refine lv_iload hx hb dX10_joined_62 (lv_at hl 3 rfl) ?_
      obtain ⟨hg_2, hF⟩ := gd_some hF
      refine xl_i (f := t_places) hx hb hK hP 3 0 rfl rfl rfl (in_v hg_2) dX10_joined_64 ?_
      refine lv_if_lt (tgt := 119) hx hb dX10_joined_65 (by decide) (fun c_3 => ?_) (fun c_3 => ?_)
      · have hF := it_pos c_3 hF
        refine lv_iinc (v := (x8 + (1 : Int32))) (lv' := [(8, .int (x8 + (1 : Int32))), (0, .ref (g_t 0)), (6, .int x6), (7, .int x7)]) hx hb dX10_joined_119 hl (k := 3) rfl (congrArg (fun z => x8 + z) (by decide)) (by decide) rfl (fun ls hl => ?_)
        refine lv_goto (tgt := 46) hx hb dX10_joined_122 (by decide) ?_
        exact ih t_places x6 x7 (x8 + (1 : Int32)) H locs ls hP hD hS (lv_sub hl [1, 2, 3, 0] rfl) hF
      · have hF := it_neg c_3 hF
        refine lv_iload hx hb dX10_joined_68 (lv_at hl 1 rfl) ?_
        refine lv_iload hx hb dX10_joined_70 (lv_at hl 2 rfl) ?_
        refine lv_aload_n hx hb dX10_joined_72 rfl (lv_at hl 0 rfl) ?_
        refine va_get (D := D) (ci := 9) (v := .ref (g_t_radar 0)) (C := RX10) (T := TX10) (N := 14) hx hb hts iw_X10_joined_X10 hown hK hP 0 rfl rfl 0 (by decide) (hts _ fl_X10_joined_10) (fun _ h9 => h9) rfl dX10_joined_73 ?_
        refine va_get (D := D) (ci := 5) (v := .ref (g_t_radar 1)) (C := RX5) (T := TX5) (N := 13) hx hb hts iw_X10_joined_X5 hown hK hP 1 rfl rfl 0 (by decide) (hts _ fl_X10_joined_238) (fun _ h9 => h9) rfl dX10_joined_76 ?_
        refine lv_iload hx hb dX10_joined_79 (lv_at hl 3 rfl) ?_
        obtain ⟨hg_4, hF⟩ := gd_some hF
        refine xl_i (f := t_radar_gaps) hx hb hK hP 2 0 rfl rfl rfl (in_v hg_4) dX10_joined_81 ?_
        refine lv_aload_n hx hb dX10_joined_82 rfl (lv_at hl 0 rfl) ?_
        refine va_get (D := D) (ci := 9) (v := .ref (g_t 14)) (C := RX10) (T := TX10) (N := 14) hx hb hts iw_X10_joined_X10 hown hK hP 0 rfl rfl 13 (by decide) (hts _ fl_X10_joined_87) (fun _ h9 => h9) rfl dX10_joined_83 ?_
        refine lv_iload hx hb dX10_joined_86 (lv_at hl 3 rfl) ?_
        obtain ⟨hg_5, hF⟩ := gd_some hF
        refine xl_i (f := t_places) hx hb hK hP 3 0 rfl rfl rfl (in_v hg_5) dX10_joined_88 ?_
        obtain ⟨r_6, hc_7, hF⟩ := bn_some hF
        refine xc_i (wn := (w_X10_joined K g_t g_t_radar g_t_draft g_t_text g_t_reader g_t_history g_t_echoes g_t_tracks g_t_dwelling g_t_chooser g_t_adviser t_radar_gapCount t_radar_targetCount t_radar_lookCount t_radar_time t_radar_gone t_radar_gaps t_places)) hP hD hS C0.2.2.1 [] [0, 1, 2, 3] [0, 1, 2, 3] rfl rfl (by decide) (by decide) rfl (by decide) (va_runS (As := [.int x6, .int x7, .int (t_radar_gaps (x8).toNatClampNeg), .int (t_places (x8).toNatClampNeg)]) (rest := []) C0.1 (c_X10_nextAtPlace l D K x6 x7 (t_radar_gaps (x8).toNatClampNeg) (t_places (x8).toNatClampNeg) r_6 hc_7 H.size) (va_cwS 4 hts gX10_joined_X10_nextAtPlace rfl rfl rfl (by decide +kernel) ⟨Nat.le_of_ble_eq_true rfl, Nat.le_of_ble_eq_true rfl⟩) (xp_S C0.2 hP hD hS [] rfl (by decide)) rfl rfl hl.1 rfl (lv_room (Nat.le_of_ble_eq_true rfl)) dX10_joined_89 ⟨Nat.le_of_ble_eq_true rfl, Nat.le_of_ble_eq_true rfl⟩) (fun H locs hP hD hS => ?_)
        refine lv_istore (lv' := [(6, .int r_6), (0, .ref (g_t 0)), (7, .int x7), (8, .int x8)]) hx hb dX10_joined_92 hl (by decide) rfl (fun ls hl => ?_)
        refine lv_iload hx hb dX10_joined_94 (lv_at hl 0 rfl) ?_
        refine lv_iconst (v := (-1)) hx hb dX10_joined_96 (by decide) ?_
        refine lv_icmp_ne (tgt := 102) hx hb dX10_joined_97 (by decide) (fun c_8 => ?_) (fun c_8 => ?_)
        · have hF := it_neg c_8 hF
          refine lv_iload hx hb dX10_joined_102 (lv_at hl 2 rfl) ?_
          refine lv_aload_n hx hb dX10_joined_104 rfl (lv_at hl 1 rfl) ?_
          refine va_get (D := D) (ci := 9) (v := .ref (g_t_radar 0)) (C := RX10) (T := TX10) (N := 14) hx hb hts iw_X10_joined_X10 hown hK hP 0 rfl rfl 0 (by decide) (hts _ fl_X10_joined_10) (fun _ h9 => h9) rfl dX10_joined_105 ?_
          refine va_get (D := D) (ci := 5) (v := .ref (g_t_radar 1)) (C := RX5) (T := TX5) (N := 13) hx hb hts iw_X10_joined_X5 hown hK hP 1 rfl rfl 0 (by decide) (hts _ fl_X10_joined_238) (fun _ h9 => h9) rfl dX10_joined_108 ?_
          refine lv_iload hx hb dX10_joined_111 (lv_at hl 3 rfl) ?_
          obtain ⟨hg_9, hF⟩ := gd_some hF
          refine xl_i (f := t_radar_gaps) hx hb hK hP 2 0 rfl rfl rfl (in_v hg_9) dX10_joined_113 ?_
          obtain ⟨r_10, hc_11, hF⟩ := bn_some hF
          refine xc_i (wn := (w_X10_joined K g_t g_t_radar g_t_draft g_t_text g_t_reader g_t_history g_t_echoes g_t_tracks g_t_dwelling g_t_chooser g_t_adviser t_radar_gapCount t_radar_targetCount t_radar_lookCount t_radar_time t_radar_gone t_radar_gaps t_places)) hP hD hS C0.2.2.1 [] [0, 1, 2, 3] [0, 1, 2, 3] rfl rfl (by decide) (by decide) rfl (by decide) (va_runS (As := [.int x7, .int (t_radar_gaps (x8).toNatClampNeg)]) (rest := []) C0.1 (c_X10_leastCommon l D K x7 (t_radar_gaps (x8).toNatClampNeg) r_10 hc_11 H.size) (va_cwS 2 hts gX10_joined_X10_leastCommon rfl rfl rfl (by decide +kernel) ⟨Nat.le_of_ble_eq_true rfl, Nat.le_of_ble_eq_true rfl⟩) (xp_S C0.2 hP hD hS [] rfl (by decide)) rfl rfl hl.1 rfl (lv_room (Nat.le_of_ble_eq_true rfl)) dX10_joined_114 ⟨Nat.le_of_ble_eq_true rfl, Nat.le_of_ble_eq_true rfl⟩) (fun H locs hP hD hS => ?_)
          refine lv_istore (lv' := [(7, .int r_10), (6, .int r_6), (0, .ref (g_t 0)), (8, .int x8)]) hx hb dX10_joined_117 hl (by decide) rfl (fun ls hl => ?_)
          refine lv_iinc (v := (x8 + (1 : Int32))) (lv' := [(8, .int (x8 + (1 : Int32))), (7, .int r_10), (6, .int r_6), (0, .ref (g_t 0))]) hx hb dX10_joined_119 hl (k := 3) rfl (congrArg (fun z => x8 + z) (by decide)) (by decide) rfl (fun ls hl => ?_)
          refine lv_goto (tgt := 46) hx hb dX10_joined_122 (by decide) ?_
          exact ih t_places r_6 r_10 (x8 + (1 : Int32)) H locs ls hP hD hS (lv_sub hl [3, 2, 1, 0] rfl) hF
        · have hF := it_pos c_8 hF
          refine lv_iconst (v := (-1)) hx hb dX10_joined_100 (by decide) ?_
          obtain rfl := Option.some.inj hF
          exact HR 101 H locs ls dX10_joined_101 hP hD hS
def F_X10_joined (t_radar_gapCount : Int32) (t_radar_gaps : Nat → Int32) (t_places : Nat → Int32) (x1 : Int32) (x2 : Int32) (x3 : Int32) (x4 : Int32) (x5 : Int32) : Option (Int32 × (Nat → Int32)) :=
  L_X10_joined_46 t_radar_gapCount t_radar_gaps fu_ (upd (upd (upd (upd (upd t_places 0 x1) 1 x2) 2 x3) 3 x4) 4 x5) (0 : Int32) (1 : Int32) (0 : Int32)
set_option maxHeartbeats 4000000 in
set_option maxRecDepth 100000 in
theorem c_X10_joined (l : Launch) (D : va_G) (K : Nat → ClassId) (g_t : Nat → Nat) (g_t_radar : Nat → Nat) (g_t_draft : Nat → Nat) (g_t_text : Nat → Nat) (g_t_reader : Nat → Nat) (g_t_history : Nat → Nat) (g_t_echoes : Nat → Nat) (g_t_tracks : Nat → Nat) (g_t_dwelling : Nat → Nat) (g_t_chooser : Nat → Nat) (g_t_adviser : Nat → Nat) (t_radar_gapCount : Int32) (t_radar_targetCount : Int32) (t_radar_lookCount : Int32) (t_radar_time : Int32) (t_radar_gone : Int32) (t_radar_gaps : Nat → Int32) (t_places : Nat → Int32) (x1 : Int32) (x2 : Int32) (x3 : Int32) (x4 : Int32) (x5 : Int32) (res : Int32 × (Nat → Int32)) (hF : F_X10_joined t_radar_gapCount t_radar_gaps t_places x1 x2 x3 x4 x5 = some res) :
    Mi_ l yX10_joined wsX10_joined rmX10_joined D K [.ref (g_t 0), .int x1, .int x2, .int x3, .int x4, .int x5] (w_X10_joined K g_t g_t_radar g_t_draft g_t_text g_t_reader g_t_history g_t_echoes g_t_tracks g_t_dwelling g_t_chooser g_t_adviser t_radar_gapCount t_radar_targetCount t_radar_lookCount t_radar_time t_radar_gone t_radar_gaps t_places) (w_X10_joined K g_t g_t_radar g_t_draft g_t_text g_t_reader g_t_history g_t_echoes g_t_tracks g_t_dwelling g_t_chooser g_t_adviser t_radar_gapCount t_radar_targetCount t_radar_lookCount t_radar_time t_radar_gone t_radar_gaps res.2) (res.1) := by
  refine en_i (cc := cX10_joined) (maxL := 9) (own := RX10) (by decide) rfl rfl (Nat.le_of_ble_eq_true rfl) ?_
  intro p e s m args below meth c A Q H locs ls C0 hP hD hS hl HR
  obtain ⟨⟨hx, hb, hml, hown, hts⟩, hK, -⟩ := id C0
  have hl : lv_has ls 9 [(0, .ref (g_t 0)), (1, .int x1), (2, .int x2), (3, .int x3), (4, .int x4), (5, .int x5)] := hl
  unfold F_X10_joined at hF
  refine lv_aload_n hx hb dX10_joined_0 rfl (lv_at hl 0 rfl) ?_
  refine va_get (D := D) (ci := 9) (v := .ref (g_t 14)) (C := RX10) (T := TX10) (N := 14) hx hb hts iw_X10_joined_X10 hown hK hP 0 rfl rfl 13 (by decide) (hts _ fl_X10_joined_87) (fun _ h9 => h9) rfl dX10_joined_1 ?_
  refine lv_iconst (v := 0) hx hb dX10_joined_4 (by decide) ?_
  refine lv_iload_n hx hb dX10_joined_5 rfl (lv_at hl 1 rfl) ?_
  refine xs_i (f := t_places) hx hb hK hP hD hS 3 0 rfl rfl (k := 0) (by decide) (in_v (by decide)) dX10_joined_6 (fun H locs hP hD hS => ?_)
  have hP : va_P D vwCl (w_X10_joined K g_t g_t_radar g_t_draft g_t_text g_t_reader g_t_history g_t_echoes g_t_tracks g_t_dwelling g_t_chooser g_t_adviser t_radar_gapCount t_radar_targetCount t_radar_lookCount t_radar_time t_radar_gone t_radar_gaps (upd t_places 0 x1)) H := hP
  have hD : va_D A (w_X10_joined K g_t g_t_radar g_t_draft g_t_text g_t_reader g_t_history g_t_echoes g_t_tracks g_t_dwelling g_t_chooser g_t_adviser t_radar_gapCount t_radar_targetCount t_radar_lookCount t_radar_time t_radar_gone t_radar_gaps (upd t_places 0 x1)) := hD
  refine lv_aload_n hx hb dX10_joined_7 rfl (lv_at hl 0 rfl) ?_
  refine va_get (D := D) (ci := 9) (v := .ref (g_t 14)) (C := RX10) (T := TX10) (N := 14) hx hb hts iw_X10_joined_X10 hown hK hP 0 rfl rfl 13 (by decide) (hts _ fl_X10_joined_87) (fun _ h9 => h9) rfl dX10_joined_8 ?_
  refine lv_iconst (v := 1) hx hb dX10_joined_11 (by decide) ?_
  refine lv_iload_n hx hb dX10_joined_12 rfl (lv_at hl 2 rfl) ?_
  refine xs_i (f := (upd t_places 0 x1)) hx hb hK hP hD hS 3 0 rfl rfl (k := 1) (by decide) (in_v (by decide)) dX10_joined_13 (fun H locs hP hD hS => ?_)
  have hP : va_P D vwCl (w_X10_joined K g_t g_t_radar g_t_draft g_t_text g_t_reader g_t_history g_t_echoes g_t_tracks g_t_dwelling g_t_chooser g_t_adviser t_radar_gapCount t_radar_targetCount t_radar_lookCount t_radar_time t_radar_gone t_radar_gaps (upd (upd t_places 0 x1) 1 x2)) H := hP
  have hD : va_D A (w_X10_joined K g_t g_t_radar g_t_draft g_t_text g_t_reader g_t_history g_t_echoes g_t_tracks g_t_dwelling g_t_chooser g_t_adviser t_radar_gapCount t_radar_targetCount t_radar_lookCount t_radar_time t_radar_gone t_radar_gaps (upd (upd t_places 0 x1) 1 x2)) := hD
  refine lv_aload_n hx hb dX10_joined_14 rfl (lv_at hl 0 rfl) ?_
  refine va_get (D := D) (ci := 9) (v := .ref (g_t 14)) (C := RX10) (T := TX10) (N := 14) hx hb hts iw_X10_joined_X10 hown hK hP 0 rfl rfl 13 (by decide) (hts _ fl_X10_joined_87) (fun _ h9 => h9) rfl dX10_joined_15 ?_
  refine lv_iconst (v := 2) hx hb dX10_joined_18 (by decide) ?_
  refine lv_iload_n hx hb dX10_joined_19 rfl (lv_at hl 3 rfl) ?_
  refine xs_i (f := (upd (upd t_places 0 x1) 1 x2)) hx hb hK hP hD hS 3 0 rfl rfl (k := 2) (by decide) (in_v (by decide)) dX10_joined_20 (fun H locs hP hD hS => ?_)
  have hP : va_P D vwCl (w_X10_joined K g_t g_t_radar g_t_draft g_t_text g_t_reader g_t_history g_t_echoes g_t_tracks g_t_dwelling g_t_chooser g_t_adviser t_radar_gapCount t_radar_targetCount t_radar_lookCount t_radar_time t_radar_gone t_radar_gaps (upd (upd (upd t_places 0 x1) 1 x2) 2 x3)) H := hP
  have hD : va_D A (w_X10_joined K g_t g_t_radar g_t_draft g_t_text g_t_reader g_t_history g_t_echoes g_t_tracks g_t_dwelling g_t_chooser g_t_adviser t_radar_gapCount t_radar_targetCount t_radar_lookCount t_radar_time t_radar_gone t_radar_gaps (upd (upd (upd t_places 0 x1) 1 x2) 2 x3)) := hD
  refine lv_aload_n hx hb dX10_joined_21 rfl (lv_at hl 0 rfl) ?_
  refine va_get (D := D) (ci := 9) (v := .ref (g_t 14)) (C := RX10) (T := TX10) (N := 14) hx hb hts iw_X10_joined_X10 hown hK hP 0 rfl rfl 13 (by decide) (hts _ fl_X10_joined_87) (fun _ h9 => h9) rfl dX10_joined_22 ?_
  refine lv_iconst (v := 3) hx hb dX10_joined_25 (by decide) ?_
  refine lv_iload hx hb dX10_joined_26 (lv_at hl 4 rfl) ?_
  refine xs_i (f := (upd (upd (upd t_places 0 x1) 1 x2) 2 x3)) hx hb hK hP hD hS 3 0 rfl rfl (k := 3) (by decide) (in_v (by decide)) dX10_joined_28 (fun H locs hP hD hS => ?_)
  have hP : va_P D vwCl (w_X10_joined K g_t g_t_radar g_t_draft g_t_text g_t_reader g_t_history g_t_echoes g_t_tracks g_t_dwelling g_t_chooser g_t_adviser t_radar_gapCount t_radar_targetCount t_radar_lookCount t_radar_time t_radar_gone t_radar_gaps (upd (upd (upd (upd t_places 0 x1) 1 x2) 2 x3) 3 x4)) H := hP
  have hD : va_D A (w_X10_joined K g_t g_t_radar g_t_draft g_t_text g_t_reader g_t_history g_t_echoes g_t_tracks g_t_dwelling g_t_chooser g_t_adviser t_radar_gapCount t_radar_targetCount t_radar_lookCount t_radar_time t_radar_gone t_radar_gaps (upd (upd (upd (upd t_places 0 x1) 1 x2) 2 x3) 3 x4)) := hD
  refine lv_aload_n hx hb dX10_joined_29 rfl (lv_at hl 0 rfl) ?_
  refine va_get (D := D) (ci := 9) (v := .ref (g_t 14)) (C := RX10) (T := TX10) (N := 14) hx hb hts iw_X10_joined_X10 hown hK hP 0 rfl rfl 13 (by decide) (hts _ fl_X10_joined_87) (fun _ h9 => h9) rfl dX10_joined_30 ?_
  refine lv_iconst (v := 4) hx hb dX10_joined_33 (by decide) ?_
  refine lv_iload hx hb dX10_joined_34 (lv_at hl 5 rfl) ?_
  refine xs_i (f := (upd (upd (upd (upd t_places 0 x1) 1 x2) 2 x3) 3 x4)) hx hb hK hP hD hS 3 0 rfl rfl (k := 4) (by decide) (in_v (by decide)) dX10_joined_36 (fun H locs hP hD hS => ?_)
  have hP : va_P D vwCl (w_X10_joined K g_t g_t_radar g_t_draft g_t_text g_t_reader g_t_history g_t_echoes g_t_tracks g_t_dwelling g_t_chooser g_t_adviser t_radar_gapCount t_radar_targetCount t_radar_lookCount t_radar_time t_radar_gone t_radar_gaps (upd (upd (upd (upd (upd t_places 0 x1) 1 x2) 2 x3) 3 x4) 4 x5)) H := hP
  have hD : va_D A (w_X10_joined K g_t g_t_radar g_t_draft g_t_text g_t_reader g_t_history g_t_echoes g_t_tracks g_t_dwelling g_t_chooser g_t_adviser t_radar_gapCount t_radar_targetCount t_radar_lookCount t_radar_time t_radar_gone t_radar_gaps (upd (upd (upd (upd (upd t_places 0 x1) 1 x2) 2 x3) 3 x4) 4 x5)) := hD
  refine lv_iconst (v := 0) hx hb dX10_joined_37 (by decide) ?_
  refine lv_istore (lv' := [(6, .int (0 : Int32)), (0, .ref (g_t 0)), (1, .int x1), (2, .int x2), (3, .int x3), (4, .int x4), (5, .int x5)]) hx hb dX10_joined_38 hl (by decide) rfl (fun ls hl => ?_)
  refine lv_iconst (v := 1) hx hb dX10_joined_40 (by decide) ?_
  refine lv_istore (lv' := [(7, .int (1 : Int32)), (6, .int (0 : Int32)), (0, .ref (g_t 0)), (1, .int x1), (2, .int x2), (3, .int x3), (4, .int x4), (5, .int x5)]) hx hb dX10_joined_41 hl (by decide) rfl (fun ls hl => ?_)
  refine lv_iconst (v := 0) hx hb dX10_joined_43 (by decide) ?_
  refine lv_istore (lv' := [(8, .int (0 : Int32)), (7, .int (1 : Int32)), (6, .int (0 : Int32)), (0, .ref (g_t 0)), (1, .int x1), (2, .int x2), (3, .int x3), (4, .int x4), (5, .int x5)]) hx hb dX10_joined_44 hl (by decide) rfl (fun ls hl => ?_)
  exact w_X10_joined_46 C0 HR fu_ (upd (upd (upd (upd (upd t_places 0 x1) 1 x2) 2 x3) 3 x4) 4 x5) (0 : Int32) (1 : Int32) (0 : Int32) H locs ls hP hD hS (lv_sub hl [3, 2, 1, 0] rfl) hF

/-! StaggerRadar.Radar.hasTarget(I)Z -/
abbrev rmX5_hasTarget : Room := { frames := 0, cells := 0, slots := 0, locals := 0 }
theorem fl_X5_hasTarget_49 : Cond.fieldLink RX5 49 "StaggerRadar$Radar" "targetCount" "I" ∈ wsX5_hasTarget := by decide +kernel
theorem iw_X5_hasTarget_X5 : ∀ w ∈ u_ws RX5 TX5 13, w ∈ wsX5_hasTarget := by decide +kernel
abbrev w_X5_hasTarget (K : Nat → ClassId) (g_t : Nat → Nat) (t_gapCount : Int32) (t_targetCount : Int32) (t_lookCount : Int32) (t_time : Int32) (t_gone : Int32) : va_W := [((g_t 0), .inr (5, [.ref (g_t 1), .ref (g_t 2), .ref (g_t 3), .ref (g_t 4), .ref (g_t 5), .ref (g_t 6), .ref (g_t 7), .ref (g_t 8), .int t_gapCount, .int t_targetCount, .int t_lookCount, .int t_time, .int t_gone]))]
def F_X5_hasTarget (t_targetCount : Int32) (x1 : Int32) : Option (Int32) :=
  if x1 < (0 : Int32) then (some (0 : Int32)) else (if t_targetCount ≤ x1 then (some (0 : Int32)) else (some (1 : Int32)))
set_option maxHeartbeats 4000000 in
set_option maxRecDepth 100000 in
theorem c_X5_hasTarget (l : Launch) (D : va_G) (K : Nat → ClassId) (g_t : Nat → Nat) (t_gapCount : Int32) (t_targetCount : Int32) (t_lookCount : Int32) (t_time : Int32) (t_gone : Int32) (x1 : Int32) (res : Int32) (hF : F_X5_hasTarget t_targetCount x1 = some res) :
    Mi_ l yX5_hasTarget wsX5_hasTarget rmX5_hasTarget D K [.ref (g_t 0), .int x1] (w_X5_hasTarget K g_t t_gapCount t_targetCount t_lookCount t_time t_gone) (w_X5_hasTarget K g_t t_gapCount t_targetCount t_lookCount t_time t_gone) (res) := by
  refine en_z (cc := cX5_hasTarget) (maxL := 2) (own := RX5) (by decide) rfl rfl (Nat.le_of_ble_eq_true rfl) ?_
  intro p e s m args below meth c A Q H locs ls C0 hP hD hS hl HR
  obtain ⟨⟨hx, hb, hml, hown, hts⟩, hK, -⟩ := id C0
  have hl : lv_has ls 2 [(0, .ref (g_t 0)), (1, .int x1)] := hl
  unfold F_X5_hasTarget at hF
  refine lv_iload_n hx hb dX5_hasTarget_0 rfl (lv_at hl 1 rfl) ?_
  refine lv_if_lt (tgt := 16) hx hb dX5_hasTarget_1 (by decide) (fun c_1 => ?_) (fun c_1 => ?_)
  · have hF := it_pos c_1 hF
    refine lv_iconst (v := 0) hx hb dX5_hasTarget_16 (by decide) ?_
    obtain rfl := Option.some.inj hF
    exact HR 17 H locs ls dX5_hasTarget_17 narrow_b0 hP hD hS
  · have hF := it_neg c_1 hF
    refine lv_iload_n hx hb dX5_hasTarget_4 rfl (lv_at hl 1 rfl) ?_
    refine lv_aload_n hx hb dX5_hasTarget_5 rfl (lv_at hl 0 rfl) ?_
    refine va_get (D := D) (ci := 5) (v := .int t_targetCount) (C := RX5) (T := TX5) (N := 13) hx hb hts iw_X5_hasTarget_X5 hown hK hP 0 rfl rfl 9 (by decide) (hts _ fl_X5_hasTarget_49) (fun _ h9 => h9) rfl dX5_hasTarget_6 ?_
    refine lv_icmp_ge (tgt := 16) hx hb dX5_hasTarget_9 (by decide) (fun c_2 => ?_) (fun c_2 => ?_)
    · have hF := it_pos c_2 hF
      refine lv_iconst (v := 0) hx hb dX5_hasTarget_16 (by decide) ?_
      obtain rfl := Option.some.inj hF
      exact HR 17 H locs ls dX5_hasTarget_17 narrow_b0 hP hD hS
    · have hF := it_neg c_2 hF
      refine lv_iconst (v := 1) hx hb dX5_hasTarget_12 (by decide) ?_
      refine lv_goto (tgt := 17) hx hb dX5_hasTarget_13 (by decide) ?_
      obtain rfl := Option.some.inj hF
      exact HR 17 H locs ls dX5_hasTarget_17 narrow_b1 hP hD hS

/-! StaggerRadar.Radar.dropTarget(I)V -/
abbrev rmX5_dropTarget : Room := { frames := 1, cells := 0, slots := 0, locals := 21 }
theorem fl_X5_dropTarget_18 : Cond.fieldLink RX5 18 "StaggerRadar$Radar" "spots" "[I" ∈ wsX5_dropTarget := by decide +kernel
theorem fl_X5_dropTarget_21 : Cond.fieldLink RX5 21 "StaggerRadar$Radar" "speeds" "[I" ∈ wsX5_dropTarget := by decide +kernel
theorem fl_X5_dropTarget_24 : Cond.fieldLink RX5 24 "StaggerRadar$Radar" "strengths" "[I" ∈ wsX5_dropTarget := by decide +kernel
theorem fl_X5_dropTarget_49 : Cond.fieldLink RX5 49 "StaggerRadar$Radar" "targetCount" "I" ∈ wsX5_dropTarget := by decide +kernel
theorem iw_X5_dropTarget_X5 : ∀ w ∈ u_ws RX5 TX5 13, w ∈ wsX5_dropTarget := by decide +kernel
abbrev w_X5_dropTarget (K : Nat → ClassId) (g_t : Nat → Nat) (t_gapCount : Int32) (t_targetCount : Int32) (t_lookCount : Int32) (t_time : Int32) (t_gone : Int32) (t_spots : Nat → Int32) (t_speeds : Nat → Int32) (t_strengths : Nat → Int32) : va_W := [((g_t 0), .inr (5, [.ref (g_t 1), .ref (g_t 2), .ref (g_t 3), .ref (g_t 4), .ref (g_t 5), .ref (g_t 6), .ref (g_t 7), .ref (g_t 8), .int t_gapCount, .int t_targetCount, .int t_lookCount, .int t_time, .int t_gone])), ((g_t 3), .inl (K 0, 8, .inl t_spots)), ((g_t 4), .inl (K 0, 8, .inl t_speeds)), ((g_t 5), .inl (K 0, 8, .inl t_strengths))]
def L_X5_dropTarget_21  : Nat → Int32 → (Nat → Int32) → (Nat → Int32) → (Nat → Int32) → Int32 → Option (Int32 × (Nat → Int32) × (Nat → Int32) × (Nat → Int32))
  | 0, _, _, _, _, _ => none
  | n_ + 1, t_targetCount, t_spots, t_speeds, t_strengths, x2 =>
    if t_targetCount ≤ x2 then (some (t_targetCount, t_spots, t_speeds, t_strengths)) else (gd_ (in_b (x2 + (1 : Int32)) 8) (gd_ (in_b x2 8) (gd_ (in_b (x2 + (1 : Int32)) 8) (gd_ (in_b x2 8) (gd_ (in_b (x2 + (1 : Int32)) 8) (gd_ (in_b x2 8) (L_X5_dropTarget_21 n_ t_targetCount (upd t_spots (x2).toNatClampNeg (t_spots (x2 + (1 : Int32)).toNatClampNeg)) (upd t_speeds (x2).toNatClampNeg (t_speeds (x2 + (1 : Int32)).toNatClampNeg)) (upd t_strengths (x2).toNatClampNeg (t_strengths (x2 + (1 : Int32)).toNatClampNeg)) (x2 + (1 : Int32)))))))))
set_option maxHeartbeats 4000000 in
set_option maxRecDepth 100000 in
theorem w_X5_dropTarget_21 {p : Program} {l : Launch} {e : Env} {s : State} {m : MethodId} {args : Array Value} {below : List Frame} {meth : Method} {c : Code} {D : va_G} {K : Nat → ClassId} {A : Nat → Prop} {Q : State → Prop} (C0 : cx_ p s m args c cX5_dropTarget 3 RX5 wsX5_dropTarget D K A) {g_t : Nat → Nat} {t_gapCount : Int32} {t_lookCount : Int32} {t_time : Int32} {t_gone : Int32} {res : Int32 × (Nat → Int32) × (Nat → Int32) × (Nat → Int32)} (HR : ∀ (pc : Nat) (H : Heap) (locs : List Loc) (ls : Array Slot), decode cX5_dropTarget pc = .ok (.return_, 1) → va_P D vwCl (w_X5_dropTarget K g_t t_gapCount res.1 t_lookCount t_time t_gone res.2.1 res.2.2.1 res.2.2.2) H → va_D A (w_X5_dropTarget K g_t t_gapCount res.1 t_lookCount t_time t_gone res.2.1 res.2.2.1 res.2.2.2) → va_S A s.heap H locs → W p l e rmX5_dropTarget s m args below meth c H locs 0 0 Q (F0 m pc ls []))  :
    ∀ (n_ : Nat) (t_targetCount : Int32) (t_spots : Nat → Int32) (t_speeds : Nat → Int32) (t_strengths : Nat → Int32) (x2 : Int32) (H : Heap) (locs : List Loc) (ls : Array Slot), va_P D vwCl (w_X5_dropTarget K g_t t_gapCount t_targetCount t_lookCount t_time t_gone t_spots t_speeds t_strengths) H → va_D A (w_X5_dropTarget K g_t t_gapCount t_targetCount t_lookCount t_time t_gone t_spots t_speeds t_strengths) → va_S A s.heap H locs → lv_has ls 3 [(0, .ref (g_t 0)), (2, .int x2)] → L_X5_dropTarget_21 n_ t_targetCount t_spots t_speeds t_strengths x2 = some res → W p l e rmX5_dropTarget s m args below meth c H locs 0 0 Q (F0 m 21 ls []) := by
  obtain ⟨⟨hx, hb, hml, hown, hts⟩, hK, -⟩ := id C0
  intro n_
  induction n_ with
  | zero =>
    intro t_targetCount t_spots t_speeds t_strengths x2 H locs ls hP hD hS hl hF
    exact no_s (show (none : Option (Int32 × (Nat → Int32) × (Nat → Int32) × (Nat → Int32))) = some res from hF)
  | succ n_ ih =>
    intro t_targetCount t_spots t_speeds t_strengths x2 H locs ls hP hD hS hl hF
    rw [L_X5_dropTarget_21] at hF
    refine lv_iload_n hx hb dX5_dropTarget_21 rfl (lv_at hl 1 rfl) ?_
    refine lv_aload_n hx hb dX5_dropTarget_22 rfl (lv_at hl 0 rfl) ?_
    refine va_get (D := D) (ci := 5) (v := .int t_targetCount) (C := RX5) (T := TX5) (N := 13) hx hb hts iw_X5_dropTarget_X5 hown hK hP 0 rfl rfl 9 (by decide) (hts _ fl_X5_dropTarget_49) (fun _ h9 => h9) rfl dX5_dropTarget_23 ?_
    refine lv_icmp_ge (tgt := 77) hx hb dX5_dropTarget_26 (by decide) (fun c_1 => ?_) (fun c_1 => ?_)
    · have hF := it_pos c_1 hF
      obtain rfl := Option.some.inj hF
      exact HR 77 H locs ls dX5_dropTarget_77 hP hD hS
    · have hF := it_neg c_1 hF
      refine lv_aload_n hx hb dX5_dropTarget_29 rfl (lv_at hl 0 rfl) ?_
      refine va_get (D := D) (ci := 5) (v := .ref (g_t 3)) (C := RX5) (T := TX5) (N := 13) hx hb hts iw_X5_dropTarget_X5 hown hK hP 0 rfl rfl 2 (by decide) (hts _ fl_X5_dropTarget_18) (fun _ h9 => h9) rfl dX5_dropTarget_30 ?_
      refine lv_iload_n hx hb dX5_dropTarget_33 rfl (lv_at hl 1 rfl) ?_
      refine lv_aload_n hx hb dX5_dropTarget_34 rfl (lv_at hl 0 rfl) ?_
      refine va_get (D := D) (ci := 5) (v := .ref (g_t 3)) (C := RX5) (T := TX5) (N := 13) hx hb hts iw_X5_dropTarget_X5 hown hK hP 0 rfl rfl 2 (by decide) (hts _ fl_X5_dropTarget_18) (fun _ h9 => h9) rfl dX5_dropTarget_35 ?_
      refine lv_iload_n hx hb dX5_dropTarget_38 rfl (lv_at hl 1 rfl) ?_
      refine lv_iconst (v := 1) hx hb dX5_dropTarget_39 (by decide) ?_
      refine lv_iadd hx hb dX5_dropTarget_40 ?_
      obtain ⟨hg_2, hF⟩ := gd_some hF
      refine xl_i (f := t_spots) hx hb hK hP 1 0 rfl rfl rfl (in_v hg_2) dX5_dropTarget_41 ?_
      obtain ⟨hg_3, hF⟩ := gd_some hF
      refine xs_i (f := t_spots) hx hb hK hP hD hS 1 0 rfl rfl rfl (in_v hg_3) dX5_dropTarget_42 (fun H locs hP hD hS => ?_)
      have hP : va_P D vwCl (w_X5_dropTarget K g_t t_gapCount t_targetCount t_lookCount t_time t_gone (upd t_spots (x2).toNatClampNeg (t_spots (x2 + (1 : Int32)).toNatClampNeg)) t_speeds t_strengths) H := hP
      have hD : va_D A (w_X5_dropTarget K g_t t_gapCount t_targetCount t_lookCount t_time t_gone (upd t_spots (x2).toNatClampNeg (t_spots (x2 + (1 : Int32)).toNatClampNeg)) t_speeds t_strengths) := hD
      refine lv_aload_n hx hb dX5_dropTarget_43 rfl (lv_at hl 0 rfl) ?_
      refine va_get (D := D) (ci := 5) (v := .ref (g_t 4)) (C := RX5) (T := TX5) (N := 13) hx hb hts iw_X5_dropTarget_X5 hown hK hP 0 rfl rfl 3 (by decide) (hts _ fl_X5_dropTarget_21) (fun _ h9 => h9) rfl dX5_dropTarget_44 ?_
      refine lv_iload_n hx hb dX5_dropTarget_47 rfl (lv_at hl 1 rfl) ?_
      refine lv_aload_n hx hb dX5_dropTarget_48 rfl (lv_at hl 0 rfl) ?_
      refine va_get (D := D) (ci := 5) (v := .ref (g_t 4)) (C := RX5) (T := TX5) (N := 13) hx hb hts iw_X5_dropTarget_X5 hown hK hP 0 rfl rfl 3 (by decide) (hts _ fl_X5_dropTarget_21) (fun _ h9 => h9) rfl dX5_dropTarget_49 ?_
      refine lv_iload_n hx hb dX5_dropTarget_52 rfl (lv_at hl 1 rfl) ?_
      refine lv_iconst (v := 1) hx hb dX5_dropTarget_53 (by decide) ?_
      refine lv_iadd hx hb dX5_dropTarget_54 ?_
      obtain ⟨hg_4, hF⟩ := gd_some hF
      refine xl_i (f := t_speeds) hx hb hK hP 2 0 rfl rfl rfl (in_v hg_4) dX5_dropTarget_55 ?_
      obtain ⟨hg_5, hF⟩ := gd_some hF
      refine xs_i (f := t_speeds) hx hb hK hP hD hS 2 0 rfl rfl rfl (in_v hg_5) dX5_dropTarget_56 (fun H locs hP hD hS => ?_)
      have hP : va_P D vwCl (w_X5_dropTarget K g_t t_gapCount t_targetCount t_lookCount t_time t_gone (upd t_spots (x2).toNatClampNeg (t_spots (x2 + (1 : Int32)).toNatClampNeg)) (upd t_speeds (x2).toNatClampNeg (t_speeds (x2 + (1 : Int32)).toNatClampNeg)) t_strengths) H := hP
      have hD : va_D A (w_X5_dropTarget K g_t t_gapCount t_targetCount t_lookCount t_time t_gone (upd t_spots (x2).toNatClampNeg (t_spots (x2 + (1 : Int32)).toNatClampNeg)) (upd t_speeds (x2).toNatClampNeg (t_speeds (x2 + (1 : Int32)).toNatClampNeg)) t_strengths) := hD
      refine lv_aload_n hx hb dX5_dropTarget_57 rfl (lv_at hl 0 rfl) ?_
      refine va_get (D := D) (ci := 5) (v := .ref (g_t 5)) (C := RX5) (T := TX5) (N := 13) hx hb hts iw_X5_dropTarget_X5 hown hK hP 0 rfl rfl 4 (by decide) (hts _ fl_X5_dropTarget_24) (fun _ h9 => h9) rfl dX5_dropTarget_58 ?_
      refine lv_iload_n hx hb dX5_dropTarget_61 rfl (lv_at hl 1 rfl) ?_
      refine lv_aload_n hx hb dX5_dropTarget_62 rfl (lv_at hl 0 rfl) ?_
      refine va_get (D := D) (ci := 5) (v := .ref (g_t 5)) (C := RX5) (T := TX5) (N := 13) hx hb hts iw_X5_dropTarget_X5 hown hK hP 0 rfl rfl 4 (by decide) (hts _ fl_X5_dropTarget_24) (fun _ h9 => h9) rfl dX5_dropTarget_63 ?_
      refine lv_iload_n hx hb dX5_dropTarget_66 rfl (lv_at hl 1 rfl) ?_
      refine lv_iconst (v := 1) hx hb dX5_dropTarget_67 (by decide) ?_
      refine lv_iadd hx hb dX5_dropTarget_68 ?_
      obtain ⟨hg_6, hF⟩ := gd_some hF
      refine xl_i (f := t_strengths) hx hb hK hP 3 0 rfl rfl rfl (in_v hg_6) dX5_dropTarget_69 ?_
      obtain ⟨hg_7, hF⟩ := gd_some hF
      refine xs_i (f := t_strengths) hx hb hK hP hD hS 3 0 rfl rfl rfl (in_v hg_7) dX5_dropTarget_70 (fun H locs hP hD hS => ?_)
      have hP : va_P D vwCl (w_X5_dropTarget K g_t t_gapCount t_targetCount t_lookCount t_time t_gone (upd t_spots (x2).toNatClampNeg (t_spots (x2 + (1 : Int32)).toNatClampNeg)) (upd t_speeds (x2).toNatClampNeg (t_speeds (x2 + (1 : Int32)).toNatClampNeg)) (upd t_strengths (x2).toNatClampNeg (t_strengths (x2 + (1 : Int32)).toNatClampNeg))) H := hP
      have hD : va_D A (w_X5_dropTarget K g_t t_gapCount t_targetCount t_lookCount t_time t_gone (upd t_spots (x2).toNatClampNeg (t_spots (x2 + (1 : Int32)).toNatClampNeg)) (upd t_speeds (x2).toNatClampNeg (t_speeds (x2 + (1 : Int32)).toNatClampNeg)) (upd t_strengths (x2).toNatClampNeg (t_strengths (x2 + (1 : Int32)).toNatClampNeg))) := hD
      refine lv_iinc (v := (x2 + (1 : Int32))) (lv' := [(2, .int (x2 + (1 : Int32))), (0, .ref (g_t 0))]) hx hb dX5_dropTarget_71 hl (k := 1) rfl (congrArg (fun z => x2 + z) (by decide)) (by decide) rfl (fun ls hl => ?_)
      refine lv_goto (tgt := 21) hx hb dX5_dropTarget_74 (by decide) ?_
      exact ih t_targetCount (upd t_spots (x2).toNatClampNeg (t_spots (x2 + (1 : Int32)).toNatClampNeg)) (upd t_speeds (x2).toNatClampNeg (t_speeds (x2 + (1 : Int32)).toNatClampNeg)) (upd t_strengths (x2).toNatClampNeg (t_strengths (x2 + (1 : Int32)).toNatClampNeg)) (x2 + (1 : Int32)) H locs ls hP hD hS (lv_sub hl [1, 0] rfl) hF
def F_X5_dropTarget (t_targetCount : Int32) (t_spots : Nat → Int32) (t_speeds : Nat → Int32) (t_strengths : Nat → Int32) (x1 : Int32) : Option (Int32 × (Nat → Int32) × (Nat → Int32) × (Nat → Int32)) :=
  (F_X5_hasTarget t_targetCount x1).bind fun r_1 => (if r_1 = (0 : Int32) then (some (t_targetCount, t_spots, t_speeds, t_strengths)) else (L_X5_dropTarget_21 fu_ (t_targetCount - (1 : Int32)) t_spots t_speeds t_strengths x1))
set_option maxHeartbeats 4000000 in
set_option maxRecDepth 100000 in
theorem c_X5_dropTarget (l : Launch) (D : va_G) (K : Nat → ClassId) (g_t : Nat → Nat) (t_gapCount : Int32) (t_targetCount : Int32) (t_lookCount : Int32) (t_time : Int32) (t_gone : Int32) (t_spots : Nat → Int32) (t_speeds : Nat → Int32) (t_strengths : Nat → Int32) (x1 : Int32) (res : Int32 × (Nat → Int32) × (Nat → Int32) × (Nat → Int32)) (hF : F_X5_dropTarget t_targetCount t_spots t_speeds t_strengths x1 = some res) :
    Mv_ l yX5_dropTarget wsX5_dropTarget rmX5_dropTarget D K [.ref (g_t 0), .int x1] (w_X5_dropTarget K g_t t_gapCount t_targetCount t_lookCount t_time t_gone t_spots t_speeds t_strengths) (w_X5_dropTarget K g_t t_gapCount res.1 t_lookCount t_time t_gone res.2.1 res.2.2.1 res.2.2.2) := by
  refine en_v (cc := cX5_dropTarget) (maxL := 3) (own := RX5) (by decide) rfl rfl (Nat.le_of_ble_eq_true rfl) ?_
  intro p e s m args below meth c A Q H locs ls C0 hP hD hS hl HR
  obtain ⟨⟨hx, hb, hml, hown, hts⟩, hK, -⟩ := id C0
  have hl : lv_has ls 3 [(0, .ref (g_t 0)), (1, .int x1)] := hl
  unfold F_X5_dropTarget at hF
  refine lv_aload_n hx hb dX5_dropTarget_0 rfl (lv_at hl 0 rfl) ?_
  refine lv_iload_n hx hb dX5_dropTarget_1 rfl (lv_at hl 1 rfl) ?_
  obtain ⟨r_1, hc_2, hF⟩ := bn_some hF
  refine xc_i (wn := (w_X5_dropTarget K g_t t_gapCount t_targetCount t_lookCount t_time t_gone t_spots t_speeds t_strengths)) hP hD hS C0.2.2.1 [0] [1, 2, 3] [3, 0, 1, 2] rfl rfl (by decide) (by decide) rfl (by decide) (va_runV (As := [.int x1]) (rest := []) C0.1 (c_X5_hasTarget l D K g_t t_gapCount t_targetCount t_lookCount t_time t_gone x1 r_1 hc_2 H.size) (cwV 1 hts gX5_dropTarget_X5_hasTarget rfl rfl rfl (by decide +kernel) ⟨Nat.le_of_ble_eq_true rfl, Nat.le_of_ble_eq_true rfl⟩) (xp_V C0.2 hP hD hS [0] rfl (by decide) 5 0 rfl rfl rfl) rfl rfl hl.1 rfl (lv_room (Nat.le_of_ble_eq_true rfl)) dX5_dropTarget_2 ⟨Nat.le_of_ble_eq_true rfl, Nat.le_of_ble_eq_true rfl⟩) (fun H locs hP hD hS => ?_)
  refine lv_if_ne (tgt := 9) hx hb dX5_dropTarget_5 (by decide) (fun c_3 => ?_) (fun c_3 => ?_)
  · have hF := it_neg c_3 hF
    refine lv_aload_n hx hb dX5_dropTarget_9 rfl (lv_at hl 0 rfl) ?_
    refine lv_dup hx hb dX5_dropTarget_10 rfl ?_
    refine va_get (D := D) (ci := 5) (v := .int t_targetCount) (C := RX5) (T := TX5) (N := 13) hx hb hts iw_X5_dropTarget_X5 hown hK hP 0 rfl rfl 9 (by decide) (hts _ fl_X5_dropTarget_49) (fun _ h9 => h9) rfl dX5_dropTarget_11 ?_
    refine lv_iconst (v := 1) hx hb dX5_dropTarget_14 (by decide) ?_
    refine lv_isub hx hb dX5_dropTarget_15 ?_
    refine va_put (D := D) (ci := 5) (v := .int (t_targetCount - (1 : Int32))) (ty := .int) (C := RX5) (T := TX5) (N := 13) hx hb hts iw_X5_dropTarget_X5 tyX5 tyX5_ok nmX5 hown hK hP hD hS 0 rfl rfl 9 (by decide) (hts _ fl_X5_dropTarget_49) (fun _ h9 => h9) rfl (by decide +kernel) rfl rfl (Nat.le_of_ble_eq_true rfl) dX5_dropTarget_16 (fun H locs hP hD hS => ?_)
    have hP : va_P D vwCl (w_X5_dropTarget K g_t t_gapCount (t_targetCount - (1 : Int32)) t_lookCount t_time t_gone t_spots t_speeds t_strengths) H := hP
    have hD : va_D A (w_X5_dropTarget K g_t t_gapCount (t_targetCount - (1 : Int32)) t_lookCount t_time t_gone t_spots t_speeds t_strengths) := hD
    refine lv_iload_n hx hb dX5_dropTarget_19 rfl (lv_at hl 1 rfl) ?_
    refine lv_istore_n (lv' := [(2, .int x1), (0, .ref (g_t 0)), (1, .int x1)]) hx hb dX5_dropTarget_20 rfl hl (by decide) rfl (fun ls hl => ?_)
    exact w_X5_dropTarget_21 C0 HR fu_ (t_targetCount - (1 : Int32)) t_spots t_speeds t_strengths x1 H locs ls hP hD hS (lv_sub hl [1, 0] rfl) hF
  · have hF := it_pos c_3 hF
    obtain rfl := Option.some.inj hF
    exact HR 8 H locs ls dX5_dropTarget_8 hP hD hS

/-! StaggerRadar.Radar.dropOldestLook()V -/
abbrev rmX5_dropOldestLook : Room := { frames := 1, cells := 0, slots := 0, locals := 60 }
theorem fl_X5_dropOldestLook_27 : Cond.fieldLink RX5 27 "StaggerRadar$Radar" "lookTimes" "[I" ∈ wsX5_dropOldestLook := by decide +kernel
theorem fl_X5_dropOldestLook_30 : Cond.fieldLink RX5 30 "StaggerRadar$Radar" "lookSizes" "[I" ∈ wsX5_dropOldestLook := by decide +kernel
theorem fl_X5_dropOldestLook_33 : Cond.fieldLink RX5 33 "StaggerRadar$Radar" "lookNumbers" "[I" ∈ wsX5_dropOldestLook := by decide +kernel
theorem fl_X5_dropOldestLook_52 : Cond.fieldLink RX5 52 "StaggerRadar$Radar" "lookCount" "I" ∈ wsX5_dropOldestLook := by decide +kernel
theorem iw_X5_dropOldestLook_X5 : ∀ w ∈ u_ws RX5 TX5 13, w ∈ wsX5_dropOldestLook := by decide +kernel
abbrev w_X5_dropOldestLook (K : Nat → ClassId) (g_t : Nat → Nat) (t_gapCount : Int32) (t_targetCount : Int32) (t_lookCount : Int32) (t_time : Int32) (t_gone : Int32) (t_lookTimes : Nat → Int32) (t_lookSizes : Nat → Int32) (t_lookNumbers : Nat → Int32) : va_W := [((g_t 0), .inr (5, [.ref (g_t 1), .ref (g_t 2), .ref (g_t 3), .ref (g_t 4), .ref (g_t 5), .ref (g_t 6), .ref (g_t 7), .ref (g_t 8), .int t_gapCount, .int t_targetCount, .int t_lookCount, .int t_time, .int t_gone])), ((g_t 6), .inl (K 0, 4, .inl t_lookTimes)), ((g_t 7), .inl (K 0, 4, .inl t_lookSizes)), ((g_t 8), .inl (K 0, 48, .inl t_lookNumbers))]
def F_X5_dropOldestLook (t_lookCount : Int32) (t_lookTimes : Nat → Int32) (t_lookSizes : Nat → Int32) (t_lookNumbers : Nat → Int32) : Option (Int32 × (Nat → Int32) × (Nat → Int32) × (Nat → Int32)) :=
  some ((3 : Int32), (va_cpy t_lookTimes t_lookTimes 1 0 3), (va_cpy t_lookSizes t_lookSizes 1 0 3), (va_cpy t_lookNumbers t_lookNumbers 12 0 36))
set_option maxHeartbeats 4000000 in
set_option maxRecDepth 100000 in
theorem c_X5_dropOldestLook (l : Launch) (D : va_G) (K : Nat → ClassId) (g_t : Nat → Nat) (t_gapCount : Int32) (t_targetCount : Int32) (t_lookCount : Int32) (t_time : Int32) (t_gone : Int32) (t_lookTimes : Nat → Int32) (t_lookSizes : Nat → Int32) (t_lookNumbers : Nat → Int32) (res : Int32 × (Nat → Int32) × (Nat → Int32) × (Nat → Int32)) (hF : F_X5_dropOldestLook t_lookCount t_lookTimes t_lookSizes t_lookNumbers = some res) :
    Mv_ l yX5_dropOldestLook wsX5_dropOldestLook rmX5_dropOldestLook D K [.ref (g_t 0)] (w_X5_dropOldestLook K g_t t_gapCount t_targetCount t_lookCount t_time t_gone t_lookTimes t_lookSizes t_lookNumbers) (w_X5_dropOldestLook K g_t t_gapCount t_targetCount res.1 t_time t_gone res.2.1 res.2.2.1 res.2.2.2) := by
  refine en_v (cc := cX5_dropOldestLook) (maxL := 1) (own := RX5) (by decide) rfl rfl (Nat.le_of_ble_eq_true rfl) ?_
  intro p e s m args below meth c A Q H locs ls C0 hP hD hS hl HR
  obtain ⟨⟨hx, hb, hml, hown, hts⟩, hK, -⟩ := id C0
  have hl : lv_has ls 1 [(0, .ref (g_t 0))] := hl
  unfold F_X5_dropOldestLook at hF
  refine lv_aload_n hx hb dX5_dropOldestLook_0 rfl (lv_at hl 0 rfl) ?_
  refine lv_iconst (v := 3) hx hb dX5_dropOldestLook_1 (by decide) ?_
  refine va_put (D := D) (ci := 5) (v := .int (3 : Int32)) (ty := .int) (C := RX5) (T := TX5) (N := 13) hx hb hts iw_X5_dropOldestLook_X5 tyX5 tyX5_ok nmX5 hown hK hP hD hS 0 rfl rfl 10 (by decide) (hts _ fl_X5_dropOldestLook_52) (fun _ h9 => h9) rfl (by decide +kernel) rfl rfl (Nat.le_of_ble_eq_true rfl) dX5_dropOldestLook_2 (fun H locs hP hD hS => ?_)
  have hP : va_P D vwCl (w_X5_dropOldestLook K g_t t_gapCount t_targetCount (3 : Int32) t_time t_gone t_lookTimes t_lookSizes t_lookNumbers) H := hP
  have hD : va_D A (w_X5_dropOldestLook K g_t t_gapCount t_targetCount (3 : Int32) t_time t_gone t_lookTimes t_lookSizes t_lookNumbers) := hD
  refine lv_aload_n hx hb dX5_dropOldestLook_5 rfl (lv_at hl 0 rfl) ?_
  refine va_get (D := D) (ci := 5) (v := .ref (g_t 6)) (C := RX5) (T := TX5) (N := 13) hx hb hts iw_X5_dropOldestLook_X5 hown hK hP 0 rfl rfl 5 (by decide) (hts _ fl_X5_dropOldestLook_27) (fun _ h9 => h9) rfl dX5_dropOldestLook_6 ?_
  refine lv_iconst (v := 1) hx hb dX5_dropOldestLook_9 (by decide) ?_
  refine lv_aload_n hx hb dX5_dropOldestLook_10 rfl (lv_at hl 0 rfl) ?_
  refine va_get (D := D) (ci := 5) (v := .ref (g_t 6)) (C := RX5) (T := TX5) (N := 13) hx hb hts iw_X5_dropOldestLook_X5 hown hK hP 0 rfl rfl 5 (by decide) (hts _ fl_X5_dropOldestLook_27) (fun _ h9 => h9) rfl dX5_dropOldestLook_11 ?_
  refine lv_iconst (v := 0) hx hb dX5_dropOldestLook_14 (by decide) ?_
  refine lv_aload_n hx hb dX5_dropOldestLook_15 rfl (lv_at hl 0 rfl) ?_
  refine va_get (D := D) (ci := 5) (v := .int (3 : Int32)) (C := RX5) (T := TX5) (N := 13) hx hb hts iw_X5_dropOldestLook_X5 hown hK hP 0 rfl rfl 10 (by decide) (hts _ fl_X5_dropOldestLook_52) (fun _ h9 => h9) rfl dX5_dropOldestLook_16 ?_
  refine xy_i (f := t_lookTimes) (g := t_lookTimes) hx hb (hml.trans hl.1.symm) hown (hts (.methodLink RX5 39 arraycopyName) (by decide +kernel)) (hts (.native arraycopyName) (by decide +kernel)) (hts (.static arraycopyName) (by decide +kernel)) (hts (.initialized "java/lang/System") (by decide +kernel)) hK hP hD hS 1 1 0 0 rfl rfl rfl rfl (by decide) (by decide) (by decide) (k1 := 1) (k2 := 0) (k3 := 3) (by decide) (by decide) (by decide) (Nat.le_of_ble_eq_true rfl) (Nat.le_of_ble_eq_true rfl) (Nat.le_of_ble_eq_true rfl) (Nat.le_of_ble_eq_true rfl) dX5_dropOldestLook_19 (fun H locs hP hD hS => ?_)
  have hP : va_P D vwCl (w_X5_dropOldestLook K g_t t_gapCount t_targetCount (3 : Int32) t_time t_gone (va_cpy t_lookTimes t_lookTimes 1 0 3) t_lookSizes t_lookNumbers) H := hP
  have hD : va_D A (w_X5_dropOldestLook K g_t t_gapCount t_targetCount (3 : Int32) t_time t_gone (va_cpy t_lookTimes t_lookTimes 1 0 3) t_lookSizes t_lookNumbers) := hD
  refine lv_aload_n hx hb dX5_dropOldestLook_22 rfl (lv_at hl 0 rfl) ?_
  refine va_get (D := D) (ci := 5) (v := .ref (g_t 7)) (C := RX5) (T := TX5) (N := 13) hx hb hts iw_X5_dropOldestLook_X5 hown hK hP 0 rfl rfl 6 (by decide) (hts _ fl_X5_dropOldestLook_30) (fun _ h9 => h9) rfl dX5_dropOldestLook_23 ?_
  refine lv_iconst (v := 1) hx hb dX5_dropOldestLook_26 (by decide) ?_
  refine lv_aload_n hx hb dX5_dropOldestLook_27 rfl (lv_at hl 0 rfl) ?_
  refine va_get (D := D) (ci := 5) (v := .ref (g_t 7)) (C := RX5) (T := TX5) (N := 13) hx hb hts iw_X5_dropOldestLook_X5 hown hK hP 0 rfl rfl 6 (by decide) (hts _ fl_X5_dropOldestLook_30) (fun _ h9 => h9) rfl dX5_dropOldestLook_28 ?_
  refine lv_iconst (v := 0) hx hb dX5_dropOldestLook_31 (by decide) ?_
  refine lv_aload_n hx hb dX5_dropOldestLook_32 rfl (lv_at hl 0 rfl) ?_
  refine va_get (D := D) (ci := 5) (v := .int (3 : Int32)) (C := RX5) (T := TX5) (N := 13) hx hb hts iw_X5_dropOldestLook_X5 hown hK hP 0 rfl rfl 10 (by decide) (hts _ fl_X5_dropOldestLook_52) (fun _ h9 => h9) rfl dX5_dropOldestLook_33 ?_
  refine xy_i (f := t_lookSizes) (g := t_lookSizes) hx hb (hml.trans hl.1.symm) hown (hts (.methodLink RX5 39 arraycopyName) (by decide +kernel)) (hts (.native arraycopyName) (by decide +kernel)) (hts (.static arraycopyName) (by decide +kernel)) (hts (.initialized "java/lang/System") (by decide +kernel)) hK hP hD hS 2 2 0 0 rfl rfl rfl rfl (by decide) (by decide) (by decide) (k1 := 1) (k2 := 0) (k3 := 3) (by decide) (by decide) (by decide) (Nat.le_of_ble_eq_true rfl) (Nat.le_of_ble_eq_true rfl) (Nat.le_of_ble_eq_true rfl) (Nat.le_of_ble_eq_true rfl) dX5_dropOldestLook_36 (fun H locs hP hD hS => ?_)
  have hP : va_P D vwCl (w_X5_dropOldestLook K g_t t_gapCount t_targetCount (3 : Int32) t_time t_gone (va_cpy t_lookTimes t_lookTimes 1 0 3) (va_cpy t_lookSizes t_lookSizes 1 0 3) t_lookNumbers) H := hP
  have hD : va_D A (w_X5_dropOldestLook K g_t t_gapCount t_targetCount (3 : Int32) t_time t_gone (va_cpy t_lookTimes t_lookTimes 1 0 3) (va_cpy t_lookSizes t_lookSizes 1 0 3) t_lookNumbers) := hD
  refine lv_aload_n hx hb dX5_dropOldestLook_39 rfl (lv_at hl 0 rfl) ?_
  refine va_get (D := D) (ci := 5) (v := .ref (g_t 8)) (C := RX5) (T := TX5) (N := 13) hx hb hts iw_X5_dropOldestLook_X5 hown hK hP 0 rfl rfl 7 (by decide) (hts _ fl_X5_dropOldestLook_33) (fun _ h9 => h9) rfl dX5_dropOldestLook_40 ?_
  refine lv_bipush (v := 12) hx hb dX5_dropOldestLook_43 (by decide) ?_
  refine lv_aload_n hx hb dX5_dropOldestLook_45 rfl (lv_at hl 0 rfl) ?_
  refine va_get (D := D) (ci := 5) (v := .ref (g_t 8)) (C := RX5) (T := TX5) (N := 13) hx hb hts iw_X5_dropOldestLook_X5 hown hK hP 0 rfl rfl 7 (by decide) (hts _ fl_X5_dropOldestLook_33) (fun _ h9 => h9) rfl dX5_dropOldestLook_46 ?_
  refine lv_iconst (v := 0) hx hb dX5_dropOldestLook_49 (by decide) ?_
  refine lv_aload_n hx hb dX5_dropOldestLook_50 rfl (lv_at hl 0 rfl) ?_
  refine va_get (D := D) (ci := 5) (v := .int (3 : Int32)) (C := RX5) (T := TX5) (N := 13) hx hb hts iw_X5_dropOldestLook_X5 hown hK hP 0 rfl rfl 10 (by decide) (hts _ fl_X5_dropOldestLook_52) (fun _ h9 => h9) rfl dX5_dropOldestLook_51 ?_
  refine lv_bipush (v := 12) hx hb dX5_dropOldestLook_54 (by decide) ?_
  refine lv_imul hx hb dX5_dropOldestLook_56 ?_
  refine xy_i (f := t_lookNumbers) (g := t_lookNumbers) hx hb (hml.trans hl.1.symm) hown (hts (.methodLink RX5 39 arraycopyName) (by decide +kernel)) (hts (.native arraycopyName) (by decide +kernel)) (hts (.static arraycopyName) (by decide +kernel)) (hts (.initialized "java/lang/System") (by decide +kernel)) hK hP hD hS 3 3 0 0 rfl rfl rfl rfl (by decide) (by decide) (by decide) (k1 := 12) (k2 := 0) (k3 := 36) (by decide) (by decide) (by decide) (Nat.le_of_ble_eq_true rfl) (Nat.le_of_ble_eq_true rfl) (Nat.le_of_ble_eq_true rfl) (Nat.le_of_ble_eq_true rfl) dX5_dropOldestLook_57 (fun H locs hP hD hS => ?_)
  have hP : va_P D vwCl (w_X5_dropOldestLook K g_t t_gapCount t_targetCount (3 : Int32) t_time t_gone (va_cpy t_lookTimes t_lookTimes 1 0 3) (va_cpy t_lookSizes t_lookSizes 1 0 3) (va_cpy t_lookNumbers t_lookNumbers 12 0 36)) H := hP
  have hD : va_D A (w_X5_dropOldestLook K g_t t_gapCount t_targetCount (3 : Int32) t_time t_gone (va_cpy t_lookTimes t_lookTimes 1 0 3) (va_cpy t_lookSizes t_lookSizes 1 0 3) (va_cpy t_lookNumbers t_lookNumbers 12 0 36)) := hD
  obtain rfl := Option.some.inj hF
  exact HR 60 H locs ls dX5_dropOldestLook_60 hP hD hS

/-! StaggerRadar.Radar.addLook([II)V -/
abbrev rmX5_addLook : Room := { frames := 2, cells := 0, slots := 0, locals := 80 }
theorem fl_X5_addLook_27 : Cond.fieldLink RX5 27 "StaggerRadar$Radar" "lookTimes" "[I" ∈ wsX5_addLook := by decide +kernel
theorem fl_X5_addLook_30 : Cond.fieldLink RX5 30 "StaggerRadar$Radar" "lookSizes" "[I" ∈ wsX5_addLook := by decide +kernel
theorem fl_X5_addLook_33 : Cond.fieldLink RX5 33 "StaggerRadar$Radar" "lookNumbers" "[I" ∈ wsX5_addLook := by decide +kernel
theorem fl_X5_addLook_52 : Cond.fieldLink RX5 52 "StaggerRadar$Radar" "lookCount" "I" ∈ wsX5_addLook := by decide +kernel
theorem fl_X5_addLook_55 : Cond.fieldLink RX5 55 "StaggerRadar$Radar" "time" "I" ∈ wsX5_addLook := by decide +kernel
theorem iw_X5_addLook_X5 : ∀ w ∈ u_ws RX5 TX5 13, w ∈ wsX5_addLook := by decide +kernel
abbrev w_X5_addLook (K : Nat → ClassId) (g_t : Nat → Nat) (a_p1 : Nat) (n_p1 : Nat) (t_gapCount : Int32) (t_targetCount : Int32) (t_lookCount : Int32) (t_time : Int32) (t_gone : Int32) (t_lookTimes : Nat → Int32) (t_lookSizes : Nat → Int32) (t_lookNumbers : Nat → Int32) (p1 : Nat → Int32) : va_W := [((g_t 0), .inr (5, [.ref (g_t 1), .ref (g_t 2), .ref (g_t 3), .ref (g_t 4), .ref (g_t 5), .ref (g_t 6), .ref (g_t 7), .ref (g_t 8), .int t_gapCount, .int t_targetCount, .int t_lookCount, .int t_time, .int t_gone])), ((g_t 6), .inl (K 0, 4, .inl t_lookTimes)), ((g_t 7), .inl (K 0, 4, .inl t_lookSizes)), ((g_t 8), .inl (K 0, 48, .inl t_lookNumbers)), (a_p1, .inl (K 0, n_p1, .inl p1))]
def J_X5_addLook_77 (t_time : Int32) (p1 : Nat → Int32) (n_p1 : Nat) (t_lookCount : Int32) (t_lookTimes : Nat → Int32) (t_lookSizes : Nat → Int32) (t_lookNumbers : Nat → Int32) : Option (Int32 × (Nat → Int32) × (Nat → Int32) × (Nat → Int32)) :=
  some ((t_lookCount + (1 : Int32)), t_lookTimes, t_lookSizes, t_lookNumbers)
set_option maxHeartbeats 4000000 in
set_option maxRecDepth 100000 in
theorem w_X5_addLook_77 {p : Program} {l : Launch} {e : Env} {s : State} {m : MethodId} {args : Array Value} {below : List Frame} {meth : Method} {c : Code} {D : va_G} {K : Nat → ClassId} {A : Nat → Prop} {Q : State → Prop} (C0 : cx_ p s m args c cX5_addLook 4 RX5 wsX5_addLook D K A) {g_t : Nat → Nat} {a_p1 : Nat} {n_p1 : Nat} {t_gapCount : Int32} {t_targetCount : Int32} {t_time : Int32} {t_gone : Int32} {p1 : Nat → Int32} {res : Int32 × (Nat → Int32) × (Nat → Int32) × (Nat → Int32)} (HR : ∀ (pc : Nat) (H : Heap) (locs : List Loc) (ls : Array Slot), decode cX5_addLook pc = .ok (.return_, 1) → va_P D vwCl (w_X5_addLook K g_t a_p1 n_p1 t_gapCount t_targetCount res.1 t_time t_gone res.2.1 res.2.2.1 res.2.2.2 p1) H → va_D A (w_X5_addLook K g_t a_p1 n_p1 t_gapCount t_targetCount res.1 t_time t_gone res.2.1 res.2.2.1 res.2.2.2 p1) → va_S A s.heap H locs → W p l e rmX5_addLook s m args below meth c H locs 0 0 Q (F0 m pc ls []))  :
    ∀ (t_lookCount : Int32) (t_lookTimes : Nat → Int32) (t_lookSizes : Nat → Int32) (t_lookNumbers : Nat → Int32) (H : Heap) (locs : List Loc) (ls : Array Slot), va_P D vwCl (w_X5_addLook K g_t a_p1 n_p1 t_gapCount t_targetCount t_lookCount t_time t_gone t_lookTimes t_lookSizes t_lookNumbers p1) H → va_D A (w_X5_addLook K g_t a_p1 n_p1 t_gapCount t_targetCount t_lookCount t_time t_gone t_lookTimes t_lookSizes t_lookNumbers p1) → va_S A s.heap H locs → lv_has ls 4 [(0, .ref (g_t 0))] → J_X5_addLook_77 t_time p1 n_p1 t_lookCount t_lookTimes t_lookSizes t_lookNumbers = some res → W p l e rmX5_addLook s m args below meth c H locs 0 0 Q (F0 m 77 ls []) := by
  obtain ⟨⟨hx, hb, hml, hown, hts⟩, hK, -⟩ := id C0
  intro t_lookCount t_lookTimes t_lookSizes t_lookNumbers H locs ls hP hD hS hl hF
  unfold J_X5_addLook_77 at hF
  refine lv_aload_n hx hb dX5_addLook_77 rfl (lv_at hl 0 rfl) ?_
  refine lv_dup hx hb dX5_addLook_78 rfl ?_
  refine va_get (D := D) (ci := 5) (v := .int t_lookCount) (C := RX5) (T := TX5) (N := 13) hx hb hts iw_X5_addLook_X5 hown hK hP 0 rfl rfl 10 (by decide) (hts _ fl_X5_addLook_52) (fun _ h9 => h9) rfl dX5_addLook_79 ?_
  refine lv_iconst (v := 1) hx hb dX5_addLook_82 (by decide) ?_
  refine lv_iadd hx hb dX5_addLook_83 ?_
  refine va_put (D := D) (ci := 5) (v := .int (t_lookCount + (1 : Int32))) (ty := .int) (C := RX5) (T := TX5) (N := 13) hx hb hts iw_X5_addLook_X5 tyX5 tyX5_ok nmX5 hown hK hP hD hS 0 rfl rfl 10 (by decide) (hts _ fl_X5_addLook_52) (fun _ h9 => h9) rfl (by decide +kernel) rfl rfl (Nat.le_of_ble_eq_true rfl) dX5_addLook_84 (fun H locs hP hD hS => ?_)
  have hP : va_P D vwCl (w_X5_addLook K g_t a_p1 n_p1 t_gapCount t_targetCount (t_lookCount + (1 : Int32)) t_time t_gone t_lookTimes t_lookSizes t_lookNumbers p1) H := hP
  have hD : va_D A (w_X5_addLook K g_t a_p1 n_p1 t_gapCount t_targetCount (t_lookCount + (1 : Int32)) t_time t_gone t_lookTimes t_lookSizes t_lookNumbers p1) := hD
  obtain rfl := Option.some.inj hF
  exact HR 87 H locs ls dX5_addLook_87 hP hD hS
def L_X5_addLook_37 (t_time : Int32) (p1 : Nat → Int32) (n_p1 : Nat) : Nat → Int32 → (Nat → Int32) → (Nat → Int32) → (Nat → Int32) → Int32 → Int32 → Option (Int32 × (Nat → Int32) × (Nat → Int32) × (Nat → Int32))
  | 0, _, _, _, _, _, _ => none
  | n_ + 1, t_lookCount, t_lookTimes, t_lookSizes, t_lookNumbers, x2, x3 =>
    if x2 ≤ x3 then (J_X5_addLook_77 t_time p1 n_p1 t_lookCount t_lookTimes t_lookSizes t_lookNumbers) else (if (12 : Int32) ≤ x3 then (J_X5_addLook_77 t_time p1 n_p1 t_lookCount t_lookTimes t_lookSizes t_lookNumbers) else (if (nI n_p1) ≤ x3 then (J_X5_addLook_77 t_time p1 n_p1 t_lookCount t_lookTimes t_lookSizes t_lookNumbers) else (gd_ (in_b x3 n_p1) (gd_ (in_b ((t_lookCount * (12 : Int32)) + x3) 48) (L_X5_addLook_37 t_time p1 n_p1 n_ t_lookCount t_lookTimes t_lookSizes (upd t_lookNumbers ((t_lookCount * (12 : Int32)) + x3).toNatClampNeg (p1 (x3).toNatClampNeg)) x2 (x3 + (1 : Int32)))))))
set_option maxHeartbeats 4000000 in
set_option maxRecDepth 100000 in
theorem w_X5_addLook_37 {p : Program} {l : Launch} {e : Env} {s : State} {m : MethodId} {args : Array Value} {below : List Frame} {meth : Method} {c : Code} {D : va_G} {K : Nat → ClassId} {A : Nat → Prop} {Q : State → Prop} (C0 : cx_ p s m args c cX5_addLook 4 RX5 wsX5_addLook D K A) {g_t : Nat → Nat} {a_p1 : Nat} {n_p1 : Nat} {t_gapCount : Int32} {t_targetCount : Int32} {t_time : Int32} {t_gone : Int32} {p1 : Nat → Int32} {res : Int32 × (Nat → Int32) × (Nat → Int32) × (Nat → Int32)} (HR : ∀ (pc : Nat) (H : Heap) (locs : List Loc) (ls : Array Slot), decode cX5_addLook pc = .ok (.return_, 1) → va_P D vwCl (w_X5_addLook K g_t a_p1 n_p1 t_gapCount t_targetCount res.1 t_time t_gone res.2.1 res.2.2.1 res.2.2.2 p1) H → va_D A (w_X5_addLook K g_t a_p1 n_p1 t_gapCount t_targetCount res.1 t_time t_gone res.2.1 res.2.2.1 res.2.2.2 p1) → va_S A s.heap H locs → W p l e rmX5_addLook s m args below meth c H locs 0 0 Q (F0 m pc ls []))  :
    ∀ (n_ : Nat) (t_lookCount : Int32) (t_lookTimes : Nat → Int32) (t_lookSizes : Nat → Int32) (t_lookNumbers : Nat → Int32) (x2 : Int32) (x3 : Int32) (H : Heap) (locs : List Loc) (ls : Array Slot), va_P D vwCl (w_X5_addLook K g_t a_p1 n_p1 t_gapCount t_targetCount t_lookCount t_time t_gone t_lookTimes t_lookSizes t_lookNumbers p1) H → va_D A (w_X5_addLook K g_t a_p1 n_p1 t_gapCount t_targetCount t_lookCount t_time t_gone t_lookTimes t_lookSizes t_lookNumbers p1) → va_S A s.heap H locs → lv_has ls 4 [(0, .ref (g_t 0)), (1, .ref a_p1), (2, .int x2), (3, .int x3)] → L_X5_addLook_37 t_time p1 n_p1 n_ t_lookCount t_lookTimes t_lookSizes t_lookNumbers x2 x3 = some res → W p l e rmX5_addLook s m args below meth c H locs 0 0 Q (F0 m 37 ls []) := by
  obtain ⟨⟨hx, hb, hml, hown, hts⟩, hK, -⟩ := id C0
  intro n_
  induction n_ with
  | zero =>
    intro t_lookCount t_lookTimes t_lookSizes t_lookNumbers x2 x3 H locs ls hP hD hS hl hF
    exact no_s (show (none : Option (Int32 × (Nat → Int32) × (Nat → Int32) × (Nat → Int32))) = some res from hF)
  | succ n_ ih =>
    intro t_lookCount t_lookTimes t_lookSizes t_lookNumbers x2 x3 H locs ls hP hD hS hl hF
    rw [L_X5_addLook_37] at hF
    refine lv_iload_n hx hb dX5_addLook_37 rfl (lv_at hl 3 rfl) ?_
    refine lv_iload_n hx hb dX5_addLook_38 rfl (lv_at hl 2 rfl) ?_
    refine lv_icmp_ge (tgt := 77) hx hb dX5_addLook_39 (by decide) (fun c_1 => ?_) (fun c_1 => ?_)
    · have hF := it_pos c_1 hF
      exact w_X5_addLook_77 C0 HR t_lookCount t_lookTimes t_lookSizes t_lookNumbers H locs ls hP hD hS (lv_sub hl [0] rfl) hF
    · have hF := it_neg c_1 hF
      refine lv_iload_n hx hb dX5_addLook_42 rfl (lv_at hl 3 rfl) ?_
      refine lv_bipush (v := 12) hx hb dX5_addLook_43 (by decide) ?_
      refine lv_icmp_ge (tgt := 77) hx hb dX5_addLook_45 (by decide) (fun c_2 => ?_) (fun c_2 => ?_)
      · have hF := it_pos c_2 hF
        exact w_X5_addLook_77 C0 HR t_lookCount t_lookTimes t_lookSizes t_lookNumbers H locs ls hP hD hS (lv_sub hl [0] rfl) hF
      · have hF := it_neg c_2 hF
        refine lv_iload_n hx hb dX5_addLook_48 rfl (lv_at hl 3 rfl) ?_
        refine lv_aload_n hx hb dX5_addLook_49 rfl (lv_at hl 1 rfl) ?_
        refine va_alen (ty := .int) (v := nI n_p1) hx hb hK hP 4 0 rfl rfl rfl dX5_addLook_50 ?_
        refine lv_icmp_ge (tgt := 77) hx hb dX5_addLook_51 (by decide) (fun c_3 => ?_) (fun c_3 => ?_)
        · have hF := it_pos c_3 hF
          exact w_X5_addLook_77 C0 HR t_lookCount t_lookTimes t_lookSizes t_lookNumbers H locs ls hP hD hS (lv_sub hl [0] rfl) hF
        · have hF := it_neg c_3 hF
          refine lv_aload_n hx hb dX5_addLook_54 rfl (lv_at hl 0 rfl) ?_
          refine va_get (D := D) (ci := 5) (v := .ref (g_t 8)) (C := RX5) (T := TX5) (N := 13) hx hb hts iw_X5_addLook_X5 hown hK hP 0 rfl rfl 7 (by decide) (hts _ fl_X5_addLook_33) (fun _ h9 => h9) rfl dX5_addLook_55 ?_
          refine lv_aload_n hx hb dX5_addLook_58 rfl (lv_at hl 0 rfl) ?_
          refine va_get (D := D) (ci := 5) (v := .int t_lookCount) (C := RX5) (T := TX5) (N := 13) hx hb hts iw_X5_addLook_X5 hown hK hP 0 rfl rfl 10 (by decide) (hts _ fl_X5_addLook_52) (fun _ h9 => h9) rfl dX5_addLook_59 ?_
          refine lv_bipush (v := 12) hx hb dX5_addLook_62 (by decide) ?_
          refine lv_imul hx hb dX5_addLook_64 ?_
          refine lv_iload_n hx hb dX5_addLook_65 rfl (lv_at hl 3 rfl) ?_
          refine lv_iadd hx hb dX5_addLook_66 ?_
          refine lv_aload_n hx hb dX5_addLook_67 rfl (lv_at hl 1 rfl) ?_
          refine lv_iload_n hx hb dX5_addLook_68 rfl (lv_at hl 3 rfl) ?_
          obtain ⟨hg_4, hF⟩ := gd_some hF
          refine xl_i (f := p1) hx hb hK hP 4 0 rfl rfl rfl (in_v hg_4) dX5_addLook_69 ?_
          obtain ⟨hg_5, hF⟩ := gd_some hF
          refine xs_i (f := t_lookNumbers) hx hb hK hP hD hS 3 0 rfl rfl rfl (in_v hg_5) dX5_addLook_70 (fun H locs hP hD hS => ?_)
          have hP : va_P D vwCl (w_X5_addLook K g_t a_p1 n_p1 t_gapCount t_targetCount t_lookCount t_time t_gone t_lookTimes t_lookSizes (upd t_lookNumbers ((t_lookCount * (12 : Int32)) + x3).toNatClampNeg (p1 (x3).toNatClampNeg)) p1) H := hP
          have hD : va_D A (w_X5_addLook K g_t a_p1 n_p1 t_gapCount t_targetCount t_lookCount t_time t_gone t_lookTimes t_lookSizes (upd t_lookNumbers ((t_lookCount * (12 : Int32)) + x3).toNatClampNeg (p1 (x3).toNatClampNeg)) p1) := hD
          refine lv_iinc (v := (x3 + (1 : Int32))) (lv' := [(3, .int (x3 + (1 : Int32))), (0, .ref (g_t 0)), (1, .ref a_p1), (2, .int x2)]) hx hb dX5_addLook_71 hl (k := 3) rfl (congrArg (fun z => x3 + z) (by decide)) (by decide) rfl (fun ls hl => ?_)
          refine lv_goto (tgt := 37) hx hb dX5_addLook_74 (by decide) ?_
          exact ih t_lookCount t_lookTimes t_lookSizes (upd t_lookNumbers ((t_lookCount * (12 : Int32)) + x3).toNatClampNeg (p1 (x3).toNatClampNeg)) x2 (x3 + (1 : Int32)) H locs ls hP hD hS (lv_sub hl [1, 2, 3, 0] rfl) hF
def J_X5_addLook_12 (t_time : Int32) (p1 : Nat → Int32) (n_p1 : Nat) (t_lookCount : Int32) (t_lookTimes : Nat → Int32) (t_lookSizes : Nat → Int32) (t_lookNumbers : Nat → Int32) (x2 : Int32) : Option (Int32 × (Nat → Int32) × (Nat → Int32) × (Nat → Int32)) :=
  gd_ (in_b t_lookCount 4) (gd_ (in_b t_lookCount 4) (L_X5_addLook_37 t_time p1 n_p1 fu_ t_lookCount (upd t_lookTimes (t_lookCount).toNatClampNeg t_time) (upd t_lookSizes (t_lookCount).toNatClampNeg x2) t_lookNumbers x2 (0 : Int32)))
set_option maxHeartbeats 4000000 in
set_option maxRecDepth 100000 in
theorem w_X5_addLook_12 {p : Program} {l : Launch} {e : Env} {s : State} {m : MethodId} {args : Array Value} {below : List Frame} {meth : Method} {c : Code} {D : va_G} {K : Nat → ClassId} {A : Nat → Prop} {Q : State → Prop} (C0 : cx_ p s m args c cX5_addLook 4 RX5 wsX5_addLook D K A) {g_t : Nat → Nat} {a_p1 : Nat} {n_p1 : Nat} {t_gapCount : Int32} {t_targetCount : Int32} {t_time : Int32} {t_gone : Int32} {p1 : Nat → Int32} {res : Int32 × (Nat → Int32) × (Nat → Int32) × (Nat → Int32)} (HR : ∀ (pc : Nat) (H : Heap) (locs : List Loc) (ls : Array Slot), decode cX5_addLook pc = .ok (.return_, 1) → va_P D vwCl (w_X5_addLook K g_t a_p1 n_p1 t_gapCount t_targetCount res.1 t_time t_gone res.2.1 res.2.2.1 res.2.2.2 p1) H → va_D A (w_X5_addLook K g_t a_p1 n_p1 t_gapCount t_targetCount res.1 t_time t_gone res.2.1 res.2.2.1 res.2.2.2 p1) → va_S A s.heap H locs → W p l e rmX5_addLook s m args below meth c H locs 0 0 Q (F0 m pc ls []))  :
    ∀ (t_lookCount : Int32) (t_lookTimes : Nat → Int32) (t_lookSizes : Nat → Int32) (t_lookNumbers : Nat → Int32) (x2 : Int32) (H : Heap) (locs : List Loc) (ls : Array Slot), va_P D vwCl (w_X5_addLook K g_t a_p1 n_p1 t_gapCount t_targetCount t_lookCount t_time t_gone t_lookTimes t_lookSizes t_lookNumbers p1) H → va_D A (w_X5_addLook K g_t a_p1 n_p1 t_gapCount t_targetCount t_lookCount t_time t_gone t_lookTimes t_lookSizes t_lookNumbers p1) → va_S A s.heap H locs → lv_has ls 4 [(0, .ref (g_t 0)), (1, .ref a_p1), (2, .int x2)] → J_X5_addLook_12 t_time p1 n_p1 t_lookCount t_lookTimes t_lookSizes t_lookNumbers x2 = some res → W p l e rmX5_addLook s m args below meth c H locs 0 0 Q (F0 m 12 ls []) := by
  obtain ⟨⟨hx, hb, hml, hown, hts⟩, hK, -⟩ := id C0
  intro t_lookCount t_lookTimes t_lookSizes t_lookNumbers x2 H locs ls hP hD hS hl hF
  unfold J_X5_addLook_12 at hF
  refine lv_aload_n hx hb dX5_addLook_12 rfl (lv_at hl 0 rfl) ?_
  refine va_get (D := D) (ci := 5) (v := .ref (g_t 6)) (C := RX5) (T := TX5) (N := 13) hx hb hts iw_X5_addLook_X5 hown hK hP 0 rfl rfl 5 (by decide) (hts _ fl_X5_addLook_27) (fun _ h9 => h9) rfl dX5_addLook_13 ?_
  refine lv_aload_n hx hb dX5_addLook_16 rfl (lv_at hl 0 rfl) ?_
  refine va_get (D := D) (ci := 5) (v := .int t_lookCount) (C := RX5) (T := TX5) (N := 13) hx hb hts iw_X5_addLook_X5 hown hK hP 0 rfl rfl 10 (by decide) (hts _ fl_X5_addLook_52) (fun _ h9 => h9) rfl dX5_addLook_17 ?_
  refine lv_aload_n hx hb dX5_addLook_20 rfl (lv_at hl 0 rfl) ?_
  refine va_get (D := D) (ci := 5) (v := .int t_time) (C := RX5) (T := TX5) (N := 13) hx hb hts iw_X5_addLook_X5 hown hK hP 0 rfl rfl 11 (by decide) (hts _ fl_X5_addLook_55) (fun _ h9 => h9) rfl dX5_addLook_21 ?_
  obtain ⟨hg_1, hF⟩ := gd_some hF
  refine xs_i (f := t_lookTimes) hx hb hK hP hD hS 1 0 rfl rfl rfl (in_v hg_1) dX5_addLook_24 (fun H locs hP hD hS => ?_)
  have hP : va_P D vwCl (w_X5_addLook K g_t a_p1 n_p1 t_gapCount t_targetCount t_lookCount t_time t_gone (upd t_lookTimes (t_lookCount).toNatClampNeg t_time) t_lookSizes t_lookNumbers p1) H := hP
  have hD : va_D A (w_X5_addLook K g_t a_p1 n_p1 t_gapCount t_targetCount t_lookCount t_time t_gone (upd t_lookTimes (t_lookCount).toNatClampNeg t_time) t_lookSizes t_lookNumbers p1) := hD
  refine lv_aload_n hx hb dX5_addLook_25 rfl (lv_at hl 0 rfl) ?_
  refine va_get (D := D) (ci := 5) (v := .ref (g_t 7)) (C := RX5) (T := TX5) (N := 13) hx hb hts iw_X5_addLook_X5 hown hK hP 0 rfl rfl 6 (by decide) (hts _ fl_X5_addLook_30) (fun _ h9 => h9) rfl dX5_addLook_26 ?_
  refine lv_aload_n hx hb dX5_addLook_29 rfl (lv_at hl 0 rfl) ?_
  refine va_get (D := D) (ci := 5) (v := .int t_lookCount) (C := RX5) (T := TX5) (N := 13) hx hb hts iw_X5_addLook_X5 hown hK hP 0 rfl rfl 10 (by decide) (hts _ fl_X5_addLook_52) (fun _ h9 => h9) rfl dX5_addLook_30 ?_
  refine lv_iload_n hx hb dX5_addLook_33 rfl (lv_at hl 2 rfl) ?_
  obtain ⟨hg_2, hF⟩ := gd_some hF
  refine xs_i (f := t_lookSizes) hx hb hK hP hD hS 2 0 rfl rfl rfl (in_v hg_2) dX5_addLook_34 (fun H locs hP hD hS => ?_)
  have hP : va_P D vwCl (w_X5_addLook K g_t a_p1 n_p1 t_gapCount t_targetCount t_lookCount t_time t_gone (upd t_lookTimes (t_lookCount).toNatClampNeg t_time) (upd t_lookSizes (t_lookCount).toNatClampNeg x2) t_lookNumbers p1) H := hP
  have hD : va_D A (w_X5_addLook K g_t a_p1 n_p1 t_gapCount t_targetCount t_lookCount t_time t_gone (upd t_lookTimes (t_lookCount).toNatClampNeg t_time) (upd t_lookSizes (t_lookCount).toNatClampNeg x2) t_lookNumbers p1) := hD
  refine lv_iconst (v := 0) hx hb dX5_addLook_35 (by decide) ?_
  refine lv_istore_n (lv' := [(3, .int (0 : Int32)), (0, .ref (g_t 0)), (1, .ref a_p1), (2, .int x2)]) hx hb dX5_addLook_36 rfl hl (by decide) rfl (fun ls hl => ?_)
  exact w_X5_addLook_37 C0 HR fu_ t_lookCount (upd t_lookTimes (t_lookCount).toNatClampNeg t_time) (upd t_lookSizes (t_lookCount).toNatClampNeg x2) t_lookNumbers x2 (0 : Int32) H locs ls hP hD hS (lv_sub hl [1, 2, 3, 0] rfl) hF
def F_X5_addLook (t_lookCount : Int32) (t_time : Int32) (t_lookTimes : Nat → Int32) (t_lookSizes : Nat → Int32) (t_lookNumbers : Nat → Int32) (p1 : Nat → Int32) (n_p1 : Nat) (x2 : Int32) : Option (Int32 × (Nat → Int32) × (Nat → Int32) × (Nat → Int32)) :=
  if t_lookCount = (4 : Int32) then ((F_X5_dropOldestLook t_lookCount t_lookTimes t_lookSizes t_lookNumbers).bind fun r_2 => (J_X5_addLook_12 t_time p1 n_p1 r_2.1 r_2.2.1 r_2.2.2.1 r_2.2.2.2 x2)) else (J_X5_addLook_12 t_time p1 n_p1 t_lookCount t_lookTimes t_lookSizes t_lookNumbers x2)
set_option maxHeartbeats 4000000 in
set_option maxRecDepth 100000 in
theorem c_X5_addLook (l : Launch) (D : va_G) (K : Nat → ClassId) (g_t : Nat → Nat) (a_p1 : Nat) (n_p1 : Nat) (t_gapCount : Int32) (t_targetCount : Int32) (t_lookCount : Int32) (t_time : Int32) (t_gone : Int32) (t_lookTimes : Nat → Int32) (t_lookSizes : Nat → Int32) (t_lookNumbers : Nat → Int32) (p1 : Nat → Int32) (x2 : Int32) (res : Int32 × (Nat → Int32) × (Nat → Int32) × (Nat → Int32)) (hF : F_X5_addLook t_lookCount t_time t_lookTimes t_lookSizes t_lookNumbers p1 n_p1 x2 = some res) :
    Mv_ l yX5_addLook wsX5_addLook rmX5_addLook D K [.ref (g_t 0), .ref a_p1, .int x2] (w_X5_addLook K g_t a_p1 n_p1 t_gapCount t_targetCount t_lookCount t_time t_gone t_lookTimes t_lookSizes t_lookNumbers p1) (w_X5_addLook K g_t a_p1 n_p1 t_gapCount t_targetCount res.1 t_time t_gone res.2.1 res.2.2.1 res.2.2.2 p1) := by
  refine en_v (cc := cX5_addLook) (maxL := 4) (own := RX5) (by decide) rfl rfl (Nat.le_of_ble_eq_true rfl) ?_
  intro p e s m args below meth c A Q H locs ls C0 hP hD hS hl HR
  obtain ⟨⟨hx, hb, hml, hown, hts⟩, hK, -⟩ := id C0
  have hl : lv_has ls 4 [(0, .ref (g_t 0)), (1, .ref a_p1), (2, .int x2)] := hl
  unfold F_X5_addLook at hF
  refine lv_aload_n hx hb dX5_addLook_0 rfl (lv_at hl 0 rfl) ?_
  refine va_get (D := D) (ci := 5) (v := .int t_lookCount) (C := RX5) (T := TX5) (N := 13) hx hb hts iw_X5_addLook_X5 hown hK hP 0 rfl rfl 10 (by decide) (hts _ fl_X5_addLook_52) (fun _ h9 => h9) rfl dX5_addLook_1 ?_
  refine lv_iconst (v := 4) hx hb dX5_addLook_4 (by decide) ?_
  refine lv_icmp_ne (tgt := 12) hx hb dX5_addLook_5 (by decide) (fun c_1 => ?_) (fun c_1 => ?_)
  · have hF := it_neg c_1 hF
    exact w_X5_addLook_12 C0 HR t_lookCount t_lookTimes t_lookSizes t_lookNumbers x2 H locs ls hP hD hS (lv_sub hl [0, 1, 2] rfl) hF
  · have hF := it_pos c_1 hF
    refine lv_aload_n hx hb dX5_addLook_8 rfl (lv_at hl 0 rfl) ?_
    obtain ⟨r_2, hc_3, hF⟩ := bn_some hF
    refine xc_v (wn := (w_X5_addLook K g_t a_p1 n_p1 t_gapCount t_targetCount r_2.1 t_time t_gone r_2.2.1 r_2.2.2.1 r_2.2.2.2 p1)) hP hD hS C0.2.2.1 [0, 1, 2, 3] [4] [1, 2, 3, 4, 0] rfl rfl (by decide) (by decide) rfl (by decide) (va_runV (As := []) (rest := []) C0.1 (c_X5_dropOldestLook l D K g_t t_gapCount t_targetCount t_lookCount t_time t_gone t_lookTimes t_lookSizes t_lookNumbers r_2 hc_3 H.size) (cwV 0 hts gX5_addLook_X5_dropOldestLook rfl rfl rfl (by decide +kernel) ⟨Nat.le_of_ble_eq_true rfl, Nat.le_of_ble_eq_true rfl⟩) (xp_V C0.2 hP hD hS [0, 1, 2, 3] rfl (by decide) 5 0 rfl rfl rfl) rfl rfl hl.1 rfl (lv_room (Nat.le_of_ble_eq_true rfl)) dX5_addLook_9 ⟨Nat.le_of_ble_eq_true rfl, Nat.le_of_ble_eq_true rfl⟩) (fun H locs hP hD hS => ?_)
    exact w_X5_addLook_12 C0 HR r_2.1 r_2.2.1 r_2.2.2.1 r_2.2.2.2 x2 H locs ls hP hD hS (lv_sub hl [0, 1, 2] rfl) hF

/-! StaggerRadar.Echoes.makersOf(LStaggerRadar$Radar;I)I -/
abbrev rmX3_makersOf : Room := { frames := 1, cells := 0, slots := 0, locals := 23 }
theorem fl_X3_makersOf_27 : Cond.fieldLink RX3 27 "StaggerRadar$Radar" "gapCount" "I" ∈ wsX3_makersOf := by decide +kernel
theorem fl_X3_makersOf_33 : Cond.fieldLink RX3 33 "StaggerRadar$Radar" "gaps" "[I" ∈ wsX3_makersOf := by decide +kernel
theorem iw_X3_makersOf_X3 : ∀ w ∈ u_ws RX3 TX3 6, w ∈ wsX3_makersOf := by decide +kernel
theorem iw_X3_makersOf_X5 : ∀ w ∈ u_ws RX5 TX5 13, w ∈ wsX3_makersOf := by decide +kernel
abbrev w_X3_makersOf (K : Nat → ClassId) (g_t : Nat → Nat) (g_p1 : Nat → Nat) (t_shownCount : Int32) (t_targets : Nat → Int32) (t_loud : Nat → Int32) (p1_gapCount : Int32) (p1_targetCount : Int32) (p1_lookCount : Int32) (p1_time : Int32) (p1_gone : Int32) (p1_gaps : Nat → Int32) (p1_settings : Nat → Int32) : va_W := [((g_t 0), .inr (3, [.ref (g_t 1), .ref (g_t 2), .ref (g_t 3), .ref (g_t 4), .ref (g_t 5), .int t_shownCount])), ((g_t 1), .inl (K 0, 300, .inl t_targets)), ((g_t 2), .inl (K 0, 300, .inl t_loud)), ((g_p1 0), .inr (5, [.ref (g_p1 1), .ref (g_p1 2), .ref (g_p1 3), .ref (g_p1 4), .ref (g_p1 5), .ref (g_p1 6), .ref (g_p1 7), .ref (g_p1 8), .int p1_gapCount, .int p1_targetCount, .int p1_lookCount, .int p1_time, .int p1_gone])), ((g_p1 1), .inl (K 0, 5, .inl p1_gaps)), ((g_p1 2), .inl (K 0, 7, .inl p1_settings))]
def L_X3_makersOf_5 (t_targets : Nat → Int32) (t_loud : Nat → Int32) (p1_gapCount : Int32) (p1_gaps : Nat → Int32) (p1_settings : Nat → Int32) : Nat → Int32 → Int32 → Int32 → Option (Int32)
  | 0, _, _, _ => none
  | n_ + 1, x2, x3, x4 =>
    if p1_gapCount ≤ x4 then (some x3) else (gd_ (in_b x4 5) ((F_X10_rest x2 (p1_gaps (x4).toNatClampNeg)).bind fun r_3 => ((F_X3_isEcho t_loud p1_settings x4 r_3).bind fun r_5 => (if r_5 = (0 : Int32) then (L_X3_makersOf_5 t_targets t_loud p1_gapCount p1_gaps p1_settings n_ x2 x3 (x4 + (1 : Int32))) else ((F_X3_targetsAt t_targets x4 r_3).bind fun r_8 => (L_X3_makersOf_5 t_targets t_loud p1_gapCount p1_gaps p1_settings n_ x2 (x3 ||| r_8) (x4 + (1 : Int32))))))))
set_option maxHeartbeats 4000000 in
set_option maxRecDepth 100000 in
theorem w_X3_makersOf_5 {p : Program} {l : Launch} {e : Env} {s : State} {m : MethodId} {args : Array Value} {below : List Frame} {meth : Method} {c : Code} {D : va_G} {K : Nat → ClassId} {A : Nat → Prop} {Q : State → Prop} (C0 : cx_ p s m args c cX3_makersOf 6 RX3 wsX3_makersOf D K A) {g_t : Nat → Nat} {g_p1 : Nat → Nat} {t_shownCount : Int32} {t_targets : Nat → Int32} {t_loud : Nat → Int32} {p1_gapCount : Int32} {p1_targetCount : Int32} {p1_lookCount : Int32} {p1_time : Int32} {p1_gone : Int32} {p1_gaps : Nat → Int32} {p1_settings : Nat → Int32} {res : Int32} (HR : ∀ (pc : Nat) (H : Heap) (locs : List Loc) (ls : Array Slot), decode cX3_makersOf pc = .ok (.ireturn, 1) → va_P D vwCl (w_X3_makersOf K g_t g_p1 t_shownCount t_targets t_loud p1_gapCount p1_targetCount p1_lookCount p1_time p1_gone p1_gaps p1_settings) H → va_D A (w_X3_makersOf K g_t g_p1 t_shownCount t_targets t_loud p1_gapCount p1_targetCount p1_lookCount p1_time p1_gone p1_gaps p1_settings) → va_S A s.heap H locs → W p l e rmX3_makersOf s m args below meth c H locs 0 0 Q (F0 m pc ls [.int res]))  :
    ∀ (n_ : Nat) (x2 : Int32) (x3 : Int32) (x4 : Int32) (H : Heap) (locs : List Loc) (ls : Array Slot), va_P D vwCl (w_X3_makersOf K g_t g_p1 t_shownCount t_targets t_loud p1_gapCount p1_targetCount p1_lookCount p1_time p1_gone p1_gaps p1_settings) H → va_D A (w_X3_makersOf K g_t g_p1 t_shownCount t_targets t_loud p1_gapCount p1_targetCount p1_lookCount p1_time p1_gone p1_gaps p1_settings) → va_S A s.heap H locs → lv_has ls 6 [(0, .ref (g_t 0)), (1, .ref (g_p1 0)), (2, .int x2), (3, .int x3), (4, .int x4)] → L_X3_makersOf_5 t_targets t_loud p1_gapCount p1_gaps p1_settings n_ x2 x3 x4 = some res → W p l e rmX3_makersOf s m args below meth c H locs 0 0 Q (F0 m 5 ls []) := by
  obtain ⟨⟨hx, hb, hml, hown, hts⟩, hK, -⟩ := id C0
  intro n_
  induction n_ with
  | zero =>
    intro x2 x3 x4 H locs ls hP hD hS hl hF
    exact no_s (show (none : Option (Int32)) = some res from hF)
  | succ n_ ih =>
    intro x2 x3 x4 H locs ls hP hD hS hl hF
    rw [L_X3_makersOf_5] at hF
    refine lv_iload hx hb dX3_makersOf_5 (lv_at hl 4 rfl) ?_
    refine lv_aload_n hx hb dX3_makersOf_7 rfl (lv_at hl 1 rfl) ?_
    refine va_get (D := D) (ci := 5) (v := .int p1_gapCount) (C := RX5) (T := TX5) (N := 13) hx hb hts iw_X3_makersOf_X5 hown hK hP 3 rfl rfl 8 (by decide) (hts _ fl_X3_makersOf_27) (fun _ h9 => h9) rfl dX3_makersOf_8 ?_
    refine lv_icmp_ge (tgt := 56) hx hb dX3_makersOf_11 (by decide) (fun c_1 => ?_) (fun c_1 => ?_)
    · have hF := it_pos c_1 hF
      refine lv_iload_n hx hb dX3_makersOf_56 rfl (lv_at hl 3 rfl) ?_
      obtain rfl := Option.some.inj hF
      exact HR 57 H locs ls dX3_makersOf_57 hP hD hS
    · have hF := it_neg c_1 hF
      refine lv_iload_n hx hb dX3_makersOf_14 rfl (lv_at hl 2 rfl) ?_
      refine lv_aload_n hx hb dX3_makersOf_15 rfl (lv_at hl 1 rfl) ?_
      refine va_get (D := D) (ci := 5) (v := .ref (g_p1 1)) (C := RX5) (T := TX5) (N := 13) hx hb hts iw_X3_makersOf_X5 hown hK hP 3 rfl rfl 0 (by decide) (hts _ fl_X3_makersOf_33) (fun _ h9 => h9) rfl dX3_makersOf_16 ?_
      refine lv_iload hx hb dX3_makersOf_19 (lv_at hl 4 rfl) ?_
      obtain ⟨hg_2, hF⟩ := gd_some hF
      refine xl_i (f := p1_gaps) hx hb hK hP 4 0 rfl rfl rfl (in_v hg_2) dX3_makersOf_21 ?_
      obtain ⟨r_3, hc_4, hF⟩ := bn_some hF
      refine xc_i (wn := (w_X3_makersOf K g_t g_p1 t_shownCount t_targets t_loud p1_gapCount p1_targetCount p1_lookCount p1_time p1_gone p1_gaps p1_settings)) hP hD hS C0.2.2.1 [] [0, 1, 2, 3, 4, 5] [0, 1, 2, 3, 4, 5] rfl rfl (by decide) (by decide) rfl (by decide) (va_runSN (host := "StaggerRadar") (As := [.int x2, .int (p1_gaps (x4).toNatClampNeg)]) (rest := []) C0.1 (c_X10_rest l D K x2 (p1_gaps (x4).toNatClampNeg) r_3 hc_4 H.size) ⟨va_cnB 2 hts gX3_makersOf_X10_rest_n59 rfl rfl rfl (C0.2.2.2.1.1 ("StaggerRadar$Echoes", 59, ⟨"StaggerRadar", "rest", "(II)I"⟩, "StaggerRadar") (by decide +kernel)) (hts (.initialized RX10) (by decide +kernel)) (by decide +kernel) ⟨Nat.le_of_ble_eq_true rfl, Nat.le_of_ble_eq_true rfl⟩, hts (.static yX10_rest) (by decide +kernel), trivial⟩ (xp_S C0.2 hP hD hS [] rfl (by decide)) rfl rfl hl.1 rfl (lv_room (Nat.le_of_ble_eq_true rfl)) dX3_makersOf_22 ⟨Nat.le_of_ble_eq_true rfl, Nat.le_of_ble_eq_true rfl⟩) (fun H locs hP hD hS => ?_)
      refine lv_istore (lv' := [(5, .int r_3), (0, .ref (g_t 0)), (1, .ref (g_p1 0)), (2, .int x2), (3, .int x3), (4, .int x4)]) hx hb dX3_makersOf_25 hl (by decide) rfl (fun ls hl => ?_)
      refine lv_aload_n hx hb dX3_makersOf_27 rfl (lv_at hl 1 rfl) ?_
      refine lv_aload_n hx hb dX3_makersOf_28 rfl (lv_at hl 2 rfl) ?_
      refine lv_iload hx hb dX3_makersOf_29 (lv_at hl 5 rfl) ?_
      refine lv_iload hx hb dX3_makersOf_31 (lv_at hl 0 rfl) ?_
      obtain ⟨r_5, hc_6, hF⟩ := bn_some hF
      refine xc_i (wn := (w_X3_makersOf K g_t g_p1 t_shownCount t_targets t_loud p1_gapCount p1_targetCount p1_lookCount p1_time p1_gone p1_gaps p1_settings)) hP hD hS C0.2.2.1 [0, 2, 3, 5] [1, 4] [2, 0, 3, 4, 1, 5] rfl rfl (by decide) (by decide) rfl (by decide) (va_runV (As := [.ref (g_p1 0), .int x4, .int r_3]) (rest := []) C0.1 (c_X3_isEcho l D K g_t g_p1 t_shownCount t_loud p1_gapCount p1_targetCount p1_lookCount p1_time p1_gone p1_settings x4 r_3 r_5 hc_6 H.size) (cwV 3 hts gX3_makersOf_X3_isEcho rfl rfl rfl (by decide +kernel) ⟨Nat.le_of_ble_eq_true rfl, Nat.le_of_ble_eq_true rfl⟩) (xp_V C0.2 hP hD hS [0, 2, 3, 5] rfl (by decide) 3 0 rfl rfl rfl) rfl rfl hl.1 rfl (lv_room (Nat.le_of_ble_eq_true rfl)) dX3_makersOf_33 ⟨Nat.le_of_ble_eq_true rfl, Nat.le_of_ble_eq_true rfl⟩) (fun H locs hP hD hS => ?_)
      refine lv_if_eq (tgt := 50) hx hb dX3_makersOf_36 (by decide) (fun c_7 => ?_) (fun c_7 => ?_)
      · have hF := it_pos c_7 hF
        refine lv_iinc (v := (x4 + (1 : Int32))) (lv' := [(4, .int (x4 + (1 : Int32))), (5, .int r_3), (0, .ref (g_t 0)), (1, .ref (g_p1 0)), (2, .int x2), (3, .int x3)]) hx hb dX3_makersOf_50 hl (k := 5) rfl (congrArg (fun z => x4 + z) (by decide)) (by decide) rfl (fun ls hl => ?_)
        refine lv_goto (tgt := 5) hx hb dX3_makersOf_53 (by decide) ?_
        exact ih x2 x3 (x4 + (1 : Int32)) H locs ls hP hD hS (lv_sub hl [2, 3, 4, 5, 0] rfl) hF
      · have hF := it_neg c_7 hF
        refine lv_iload_n hx hb dX3_makersOf_39 rfl (lv_at hl 4 rfl) ?_
        refine lv_aload_n hx hb dX3_makersOf_40 rfl (lv_at hl 1 rfl) ?_
        refine lv_iload hx hb dX3_makersOf_41 (lv_at hl 5 rfl) ?_
        refine lv_iload hx hb dX3_makersOf_43 (lv_at hl 0 rfl) ?_
        obtain ⟨r_8, hc_9, hF⟩ := bn_some hF
        refine xc_i (wn := (w_X3_makersOf K g_t g_p1 t_shownCount t_targets t_loud p1_gapCount p1_targetCount p1_lookCount p1_time p1_gone p1_gaps p1_settings)) hP hD hS C0.2.2.1 [0, 1] [2, 3, 4, 5] [4, 5, 0, 1, 2, 3] rfl rfl (by decide) (by decide) rfl (by decide) (va_runV (As := [.int x4, .int r_3]) (rest := [.int x3]) C0.1 (c_X3_targetsAt l D K g_t t_shownCount t_targets x4 r_3 r_8 hc_9 H.size) (cwV 2 hts gX3_makersOf_X3_targetsAt rfl rfl rfl (by decide +kernel) ⟨Nat.le_of_ble_eq_true rfl, Nat.le_of_ble_eq_true rfl⟩) (xp_V C0.2 hP hD hS [0, 1] rfl (by decide) 3 0 rfl rfl rfl) rfl rfl hl.1 rfl (lv_room (Nat.le_of_ble_eq_true rfl)) dX3_makersOf_45 ⟨Nat.le_of_ble_eq_true rfl, Nat.le_of_ble_eq_true rfl⟩) (fun H locs hP hD hS => ?_)
        refine lv_ior hx hb dX3_makersOf_48 ?_
        refine lv_istore_n (lv' := [(3, .int (x3 ||| r_8)), (5, .int r_3), (0, .ref (g_t 0)), (1, .ref (g_p1 0)), (2, .int x2), (4, .int x4)]) hx hb dX3_makersOf_49 rfl hl (by decide) rfl (fun ls hl => ?_)
        refine lv_iinc (v := (x4 + (1 : Int32))) (lv' := [(4, .int (x4 + (1 : Int32))), (3, .int (x3 ||| r_8)), (5, .int r_3), (0, .ref (g_t 0)), (1, .ref (g_p1 0)), (2, .int x2)]) hx hb dX3_makersOf_50 hl (k := 5) rfl (congrArg (fun z => x4 + z) (by decide)) (by decide) rfl (fun ls hl => ?_)
        refine lv_goto (tgt := 5) hx hb dX3_makersOf_53 (by decide) ?_
        exact ih x2 (x3 ||| r_8) (x4 + (1 : Int32)) H locs ls hP hD hS (lv_sub hl [3, 4, 5, 1, 0] rfl) hF
def F_X3_makersOf (t_targets : Nat → Int32) (t_loud : Nat → Int32) (p1_gapCount : Int32) (p1_gaps : Nat → Int32) (p1_settings : Nat → Int32) (x2 : Int32) : Option (Int32) :=
  L_X3_makersOf_5 t_targets t_loud p1_gapCount p1_gaps p1_settings fu_ x2 (0 : Int32) (0 : Int32)
set_option maxHeartbeats 4000000 in
set_option maxRecDepth 100000 in
theorem c_X3_makersOf (l : Launch) (D : va_G) (K : Nat → ClassId) (g_t : Nat → Nat) (g_p1 : Nat → Nat) (t_shownCount : Int32) (t_targets : Nat → Int32) (t_loud : Nat → Int32) (p1_gapCount : Int32) (p1_targetCount : Int32) (p1_lookCount : Int32) (p1_time : Int32) (p1_gone : Int32) (p1_gaps : Nat → Int32) (p1_settings : Nat → Int32) (x2 : Int32) (res : Int32) (hF : F_X3_makersOf t_targets t_loud p1_gapCount p1_gaps p1_settings x2 = some res) :
    Mi_ l yX3_makersOf wsX3_makersOf rmX3_makersOf D K [.ref (g_t 0), .ref (g_p1 0), .int x2] (w_X3_makersOf K g_t g_p1 t_shownCount t_targets t_loud p1_gapCount p1_targetCount p1_lookCount p1_time p1_gone p1_gaps p1_settings) (w_X3_makersOf K g_t g_p1 t_shownCount t_targets t_loud p1_gapCount p1_targetCount p1_lookCount p1_time p1_gone p1_gaps p1_settings) (res) := by
  refine en_i (cc := cX3_makersOf) (maxL := 6) (own := RX3) (by decide) rfl rfl (Nat.le_of_ble_eq_true rfl) ?_
  intro p e s m args below meth c A Q H locs ls C0 hP hD hS hl HR
  obtain ⟨⟨hx, hb, hml, hown, hts⟩, hK, -⟩ := id C0
  have hl : lv_has ls 6 [(0, .ref (g_t 0)), (1, .ref (g_p1 0)), (2, .int x2)] := hl
  unfold F_X3_makersOf at hF
  refine lv_iconst (v := 0) hx hb dX3_makersOf_0 (by decide) ?_
  refine lv_istore_n (lv' := [(3, .int (0 : Int32)), (0, .ref (g_t 0)), (1, .ref (g_p1 0)), (2, .int x2)]) hx hb dX3_makersOf_1 rfl hl (by decide) rfl (fun ls hl => ?_)
  refine lv_iconst (v := 0) hx hb dX3_makersOf_2 (by decide) ?_
  refine lv_istore (lv' := [(4, .int (0 : Int32)), (3, .int (0 : Int32)), (0, .ref (g_t 0)), (1, .ref (g_p1 0)), (2, .int x2)]) hx hb dX3_makersOf_3 hl (by decide) rfl (fun ls hl => ?_)
  exact w_X3_makersOf_5 C0 HR fu_ x2 (0 : Int32) (0 : Int32) H locs ls hP hD hS (lv_sub hl [2, 3, 4, 1, 0] rfl) hF

/-! StaggerRadar.makers(I)I -/
abbrev rmX10_makers : Room := { frames := 5, cells := 0, slots := 0, locals := 115 }
theorem fl_X10_makers_10 : Cond.fieldLink RX10 10 "StaggerRadar" "radar" "LStaggerRadar$Radar;" ∈ wsX10_makers := by decide +kernel
theorem fl_X10_makers_55 : Cond.fieldLink RX10 55 "StaggerRadar" "echoes" "LStaggerRadar$Echoes;" ∈ wsX10_makers := by decide +kernel
theorem iw_X10_makers_X10 : ∀ w ∈ u_ws RX10 TX10 14, w ∈ wsX10_makers := by decide +kernel
theorem iw_X10_makers_X3 : ∀ w ∈ u_ws RX3 TX3 6, w ∈ wsX10_makers := by decide +kernel
theorem iw_X10_makers_X5 : ∀ w ∈ u_ws RX5 TX5 13, w ∈ wsX10_makers := by decide +kernel
abbrev w_X10_makers (K : Nat → ClassId) (g_t : Nat → Nat) (g_t_radar : Nat → Nat) (g_t_draft : Nat → Nat) (g_t_text : Nat → Nat) (g_t_reader : Nat → Nat) (g_t_history : Nat → Nat) (g_t_echoes : Nat → Nat) (g_t_tracks : Nat → Nat) (g_t_dwelling : Nat → Nat) (g_t_chooser : Nat → Nat) (g_t_adviser : Nat → Nat) (t_radar_gapCount : Int32) (t_radar_targetCount : Int32) (t_radar_lookCount : Int32) (t_radar_time : Int32) (t_radar_gone : Int32) (t_radar_gaps : Nat → Int32) (t_radar_settings : Nat → Int32) (t_radar_spots : Nat → Int32) (t_radar_speeds : Nat → Int32) (t_radar_strengths : Nat → Int32) (t_echoes_shownCount : Int32) (t_echoes_targets : Nat → Int32) (t_echoes_loud : Nat → Int32) : va_W := [((g_t 0), .inr (9, [.ref (g_t_radar 0), .ref (g_t_draft 0), .ref (g_t_text 0), .ref (g_t_reader 0), .ref (g_t_history 0), .ref (g_t 6), .ref (g_t 7), .ref (g_t 8), .ref (g_t_echoes 0), .ref (g_t_tracks 0), .ref (g_t_dwelling 0), .ref (g_t_chooser 0), .ref (g_t_adviser 0), .ref (g_t 14)])), ((g_t_radar 0), .inr (5, [.ref (g_t_radar 1), .ref (g_t_radar 2), .ref (g_t_radar 3), .ref (g_t_radar 4), .ref (g_t_radar 5), .ref (g_t_radar 6), .ref (g_t_radar 7), .ref (g_t_radar 8), .int t_radar_gapCount, .int t_radar_targetCount, .int t_radar_lookCount, .int t_radar_time, .int t_radar_gone])), ((g_t_radar 1), .inl (K 0, 5, .inl t_radar_gaps)), ((g_t_radar 2), .inl (K 0, 7, .inl t_radar_settings)), ((g_t_radar 3), .inl (K 0, 8, .inl t_radar_spots)), ((g_t_radar 4), .inl (K 0, 8, .inl t_radar_speeds)), ((g_t_radar 5), .inl (K 0, 8, .inl t_radar_strengths)), ((g_t_echoes 0), .inr (3, [.ref (g_t_echoes 1), .ref (g_t_echoes 2), .ref (g_t_echoes 3), .ref (g_t_echoes 4), .ref (g_t_echoes 5), .int t_echoes_shownCount])), ((g_t_echoes 1), .inl (K 0, 300, .inl t_echoes_targets)), ((g_t_echoes 2), .inl (K 0, 300, .inl t_echoes_loud))]
def F_X10_makers (t_radar_gapCount : Int32) (t_radar_targetCount : Int32) (t_radar_gaps : Nat → Int32) (t_radar_settings : Nat → Int32) (t_radar_spots : Nat → Int32) (t_radar_speeds : Nat → Int32) (t_radar_strengths : Nat → Int32) (t_echoes_targets : Nat → Int32) (t_echoes_loud : Nat → Int32) (x1 : Int32) : Option (Int32 × (Nat → Int32) × (Nat → Int32)) :=
  (F_X10_isWithin x1 (0 : Int32) (9999 : Int32)).bind fun r_1 => (if r_1 = (0 : Int32) then (some ((-1 : Int32), t_echoes_targets, t_echoes_loud)) else ((F_X3_listen t_echoes_targets t_echoes_loud t_radar_gapCount t_radar_targetCount t_radar_gaps t_radar_settings t_radar_spots t_radar_speeds t_radar_strengths).bind fun r_4 => ((F_X3_makersOf r_4.1 r_4.2 t_radar_gapCount t_radar_gaps t_radar_settings x1).bind fun r_6 => (some (r_6, r_4.1, r_4.2)))))
set_option maxHeartbeats 4000000 in
set_option maxRecDepth 100000 in
theorem c_X10_makers (l : Launch) (D : va_G) (K : Nat → ClassId) (g_t : Nat → Nat) (g_t_radar : Nat → Nat) (g_t_draft : Nat → Nat) (g_t_text : Nat → Nat) (g_t_reader : Nat → Nat) (g_t_history : Nat → Nat) (g_t_echoes : Nat → Nat) (g_t_tracks : Nat → Nat) (g_t_dwelling : Nat → Nat) (g_t_chooser : Nat → Nat) (g_t_adviser : Nat → Nat) (t_radar_gapCount : Int32) (t_radar_targetCount : Int32) (t_radar_lookCount : Int32) (t_radar_time : Int32) (t_radar_gone : Int32) (t_radar_gaps : Nat → Int32) (t_radar_settings : Nat → Int32) (t_radar_spots : Nat → Int32) (t_radar_speeds : Nat → Int32) (t_radar_strengths : Nat → Int32) (t_echoes_shownCount : Int32) (t_echoes_targets : Nat → Int32) (t_echoes_loud : Nat → Int32) (x1 : Int32) (res : Int32 × (Nat → Int32) × (Nat → Int32)) (hF : F_X10_makers t_radar_gapCount t_radar_targetCount t_radar_gaps t_radar_settings t_radar_spots t_radar_speeds t_radar_strengths t_echoes_targets t_echoes_loud x1 = some res) :
    Mi_ l yX10_makers wsX10_makers rmX10_makers D K [.ref (g_t 0), .int x1] (w_X10_makers K g_t g_t_radar g_t_draft g_t_text g_t_reader g_t_history g_t_echoes g_t_tracks g_t_dwelling g_t_chooser g_t_adviser t_radar_gapCount t_radar_targetCount t_radar_lookCount t_radar_time t_radar_gone t_radar_gaps t_radar_settings t_radar_spots t_radar_speeds t_radar_strengths t_echoes_shownCount t_echoes_targets t_echoes_loud) (w_X10_makers K g_t g_t_radar g_t_draft g_t_text g_t_reader g_t_history g_t_echoes g_t_tracks g_t_dwelling g_t_chooser g_t_adviser t_radar_gapCount t_radar_targetCount t_radar_lookCount t_radar_time t_radar_gone t_radar_gaps t_radar_settings t_radar_spots t_radar_speeds t_radar_strengths t_echoes_shownCount res.2.1 res.2.2) (res.1) := by
  refine en_i (cc := cX10_makers) (maxL := 2) (own := RX10) (by decide) rfl rfl (Nat.le_of_ble_eq_true rfl) ?_
  intro p e s m args below meth c A Q H locs ls C0 hP hD hS hl HR
  obtain ⟨⟨hx, hb, hml, hown, hts⟩, hK, -⟩ := id C0
  have hl : lv_has ls 2 [(0, .ref (g_t 0)), (1, .int x1)] := hl
  unfold F_X10_makers at hF
  refine lv_iload_n hx hb dX10_makers_0 rfl (lv_at hl 1 rfl) ?_
  refine lv_iconst (v := 0) hx hb dX10_makers_1 (by decide) ?_
  refine lv_sipush (v := 9999) hx hb dX10_makers_2 (by decide) ?_
  obtain ⟨r_1, hc_2, hF⟩ := bn_some hF
  refine xc_i (wn := (w_X10_makers K g_t g_t_radar g_t_draft g_t_text g_t_reader g_t_history g_t_echoes g_t_tracks g_t_dwelling g_t_chooser g_t_adviser t_radar_gapCount t_radar_targetCount t_radar_lookCount t_radar_time t_radar_gone t_radar_gaps t_radar_settings t_radar_spots t_radar_speeds t_radar_strengths t_echoes_shownCount t_echoes_targets t_echoes_loud)) hP hD hS C0.2.2.1 [] [0, 1, 2, 3, 4, 5, 6, 7, 8, 9] [0, 1, 2, 3, 4, 5, 6, 7, 8, 9] rfl rfl (by decide) (by decide) rfl (by decide) (va_runS (As := [.int x1, .int (0 : Int32), .int (9999 : Int32)]) (rest := []) C0.1 (c_X10_isWithin l D K x1 (0 : Int32) (9999 : Int32) r_1 hc_2 H.size) (va_cwS 3 hts gX10_makers_X10_isWithin rfl rfl rfl (by decide +kernel) ⟨Nat.le_of_ble_eq_true rfl, Nat.le_of_ble_eq_true rfl⟩) (xp_S C0.2 hP hD hS [] rfl (by decide)) rfl rfl hl.1 rfl (lv_room (Nat.le_of_ble_eq_true rfl)) dX10_makers_5 ⟨Nat.le_of_ble_eq_true rfl, Nat.le_of_ble_eq_true rfl⟩) (fun H locs hP hD hS => ?_)
  refine lv_if_ne (tgt := 13) hx hb dX10_makers_8 (by decide) (fun c_3 => ?_) (fun c_3 => ?_)
  · have hF := it_neg c_3 hF
    refine lv_aload_n hx hb dX10_makers_13 rfl (lv_at hl 0 rfl) ?_
    refine va_get (D := D) (ci := 9) (v := .ref (g_t_echoes 0)) (C := RX10) (T := TX10) (N := 14) hx hb hts iw_X10_makers_X10 hown hK hP 0 rfl rfl 8 (by decide) (hts _ fl_X10_makers_55) (fun _ h9 => h9) rfl dX10_makers_14 ?_
    refine lv_aload_n hx hb dX10_makers_17 rfl (lv_at hl 0 rfl) ?_
    refine va_get (D := D) (ci := 9) (v := .ref (g_t_radar 0)) (C := RX10) (T := TX10) (N := 14) hx hb hts iw_X10_makers_X10 hown hK hP 0 rfl rfl 0 (by decide) (hts _ fl_X10_makers_10) (fun _ h9 => h9) rfl dX10_makers_18 ?_
    obtain ⟨r_4, hc_5, hF⟩ := bn_some hF
    refine xc_v (wn := (w_X10_makers K g_t g_t_radar g_t_draft g_t_text g_t_reader g_t_history g_t_echoes g_t_tracks g_t_dwelling g_t_chooser g_t_adviser t_radar_gapCount t_radar_targetCount t_radar_lookCount t_radar_time t_radar_gone t_radar_gaps t_radar_settings t_radar_spots t_radar_speeds t_radar_strengths t_echoes_shownCount r_4.1 r_4.2)) hP hD hS C0.2.2.1 [7, 8, 9, 1, 2, 3, 4, 5, 6] [0] [0, 4, 5, 6, 7, 8, 9, 1, 2, 3] rfl rfl (by decide) (by decide) rfl (by decide) (va_runV (As := [.ref (g_t_radar 0)]) (rest := []) C0.1 (c_X3_listen l D K g_t_echoes g_t_radar t_echoes_shownCount t_echoes_targets t_echoes_loud t_radar_gapCount t_radar_targetCount t_radar_lookCount t_radar_time t_radar_gone t_radar_gaps t_radar_settings t_radar_spots t_radar_speeds t_radar_strengths r_4 hc_5 H.size) (cwV 1 hts gX10_makers_X3_listen rfl rfl rfl (by decide +kernel) ⟨Nat.le_of_ble_eq_true rfl, Nat.le_of_ble_eq_true rfl⟩) (xp_V C0.2 hP hD hS [7, 8, 9, 1, 2, 3, 4, 5, 6] rfl (by decide) 3 0 rfl rfl rfl) rfl rfl hl.1 rfl (lv_room (Nat.le_of_ble_eq_true rfl)) dX10_makers_21 ⟨Nat.le_of_ble_eq_true rfl, Nat.le_of_ble_eq_true rfl⟩) (fun H locs hP hD hS => ?_)
    refine lv_aload_n hx hb dX10_makers_24 rfl (lv_at hl 0 rfl) ?_
    refine va_get (D := D) (ci := 9) (v := .ref (g_t_echoes 0)) (C := RX10) (T := TX10) (N := 14) hx hb hts iw_X10_makers_X10 hown hK hP 0 rfl rfl 8 (by decide) (hts _ fl_X10_makers_55) (fun _ h9 => h9) rfl dX10_makers_25 ?_
    refine lv_aload_n hx hb dX10_makers_28 rfl (lv_at hl 0 rfl) ?_
    refine va_get (D := D) (ci := 9) (v := .ref (g_t_radar 0)) (C := RX10) (T := TX10) (N := 14) hx hb hts iw_X10_makers_X10 hown hK hP 0 rfl rfl 0 (by decide) (hts _ fl_X10_makers_10) (fun _ h9 => h9) rfl dX10_makers_29 ?_
    refine lv_iload_n hx hb dX10_makers_32 rfl (lv_at hl 1 rfl) ?_
    obtain ⟨r_6, hc_7, hF⟩ := bn_some hF
    refine xc_i (wn := (w_X10_makers K g_t g_t_radar g_t_draft g_t_text g_t_reader g_t_history g_t_echoes g_t_tracks g_t_dwelling g_t_chooser g_t_adviser t_radar_gapCount t_radar_targetCount t_radar_lookCount t_radar_time t_radar_gone t_radar_gaps t_radar_settings t_radar_spots t_radar_speeds t_radar_strengths t_echoes_shownCount r_4.1 r_4.2)) hP hD hS C0.2.2.1 [7, 8, 9, 1, 2, 3] [0, 4, 5, 6] [0, 7, 8, 9, 1, 2, 3, 4, 5, 6] rfl rfl (by decide) (by decide) rfl (by decide) (va_runV (As := [.ref (g_t_radar 0), .int x1]) (rest := []) C0.1 (c_X3_makersOf l D K g_t_echoes g_t_radar t_echoes_shownCount r_4.1 r_4.2 t_radar_gapCount t_radar_targetCount t_radar_lookCount t_radar_time t_radar_gone t_radar_gaps t_radar_settings x1 r_6 hc_7 H.size) (cwV 2 hts gX10_makers_X3_makersOf rfl rfl rfl (by decide +kernel) ⟨Nat.le_of_ble_eq_true rfl, Nat.le_of_ble_eq_true rfl⟩) (xp_V C0.2 hP hD hS [7, 8, 9, 1, 2, 3] rfl (by decide) 3 0 rfl rfl rfl) rfl rfl hl.1 rfl (lv_room (Nat.le_of_ble_eq_true rfl)) dX10_makers_33 ⟨Nat.le_of_ble_eq_true rfl, Nat.le_of_ble_eq_true rfl⟩) (fun H locs hP hD hS => ?_)
    obtain rfl := Option.some.inj hF
    exact HR 36 H locs ls dX10_makers_36 hP hD hS
  · have hF := it_pos c_3 hF
    refine lv_iconst (v := (-1)) hx hb dX10_makers_11 (by decide) ?_
    obtain rfl := Option.some.inj hF
    exact HR 12 H locs ls dX10_makers_12 hP hD hS

/-! StaggerRadar.more(Z)I -/
abbrev rmX10_more : Room := { frames := 5, cells := 0, slots := 0, locals := 116 }
theorem fl_X10_more_10 : Cond.fieldLink RX10 10 "StaggerRadar" "radar" "LStaggerRadar$Radar;" ∈ wsX10_more := by decide +kernel
theorem fl_X10_more_55 : Cond.fieldLink RX10 55 "StaggerRadar" "echoes" "LStaggerRadar$Echoes;" ∈ wsX10_more := by decide +kernel
theorem fl_X10_more_83 : Cond.fieldLink RX10 83 "StaggerRadar" "adviser" "LStaggerRadar$Adviser;" ∈ wsX10_more := by decide +kernel
theorem fl_X10_more_122 : Cond.fieldLink RX10 122 "StaggerRadar$Radar" "gapCount" "I" ∈ wsX10_more := by decide +kernel
theorem iw_X10_more_X0 : ∀ w ∈ u_ws RX0 TX0 1, w ∈ wsX10_more := by decide +kernel
theorem iw_X10_more_X10 : ∀ w ∈ u_ws RX10 TX10 14, w ∈ wsX10_more := by decide +kernel
theorem iw_X10_more_X3 : ∀ w ∈ u_ws RX3 TX3 6, w ∈ wsX10_more := by decide +kernel
theorem iw_X10_more_X5 : ∀ w ∈ u_ws RX5 TX5 13, w ∈ wsX10_more := by decide +kernel
abbrev w_X10_more (K : Nat → ClassId) (g_t : Nat → Nat) (g_t_radar : Nat → Nat) (g_t_draft : Nat → Nat) (g_t_text : Nat → Nat) (g_t_reader : Nat → Nat) (g_t_history : Nat → Nat) (g_t_echoes : Nat → Nat) (g_t_tracks : Nat → Nat) (g_t_dwelling : Nat → Nat) (g_t_chooser : Nat → Nat) (g_t_adviser : Nat → Nat) (t_radar_gapCount : Int32) (t_radar_targetCount : Int32) (t_radar_lookCount : Int32) (t_radar_time : Int32) (t_radar_gone : Int32) (t_radar_gaps : Nat → Int32) (t_radar_settings : Nat → Int32) (t_radar_spots : Nat → Int32) (t_radar_speeds : Nat → Int32) (t_radar_strengths : Nat → Int32) (t_echoes_shownCount : Int32) (t_echoes_targets : Nat → Int32) (t_echoes_loud : Nat → Int32) (t_echoes_hitBits : Nat → Int32) (t_adviser_weight : Nat → Int32) : va_W := [((g_t 0), .inr (9, [.ref (g_t_radar 0), .ref (g_t_draft 0), .ref (g_t_text 0), .ref (g_t_reader 0), .ref (g_t_history 0), .ref (g_t 6), .ref (g_t 7), .ref (g_t 8), .ref (g_t_echoes 0), .ref (g_t_tracks 0), .ref (g_t_dwelling 0), .ref (g_t_chooser 0), .ref (g_t_adviser 0), .ref (g_t 14)])), ((g_t_radar 0), .inr (5, [.ref (g_t_radar 1), .ref (g_t_radar 2), .ref (g_t_radar 3), .ref (g_t_radar 4), .ref (g_t_radar 5), .ref (g_t_radar 6), .ref (g_t_radar 7), .ref (g_t_radar 8), .int t_radar_gapCount, .int t_radar_targetCount, .int t_radar_lookCount, .int t_radar_time, .int t_radar_gone])), ((g_t_radar 1), .inl (K 0, 5, .inl t_radar_gaps)), ((g_t_radar 2), .inl (K 0, 7, .inl t_radar_settings)), ((g_t_radar 3), .inl (K 0, 8, .inl t_radar_spots)), ((g_t_radar 4), .inl (K 0, 8, .inl t_radar_speeds)), ((g_t_radar 5), .inl (K 0, 8, .inl t_radar_strengths)), ((g_t_echoes 0), .inr (3, [.ref (g_t_echoes 1), .ref (g_t_echoes 2), .ref (g_t_echoes 3), .ref (g_t_echoes 4), .ref (g_t_echoes 5), .int t_echoes_shownCount])), ((g_t_echoes 1), .inl (K 0, 300, .inl t_echoes_targets)), ((g_t_echoes 2), .inl (K 0, 300, .inl t_echoes_loud)), ((g_t_echoes 3), .inl (K 0, 1000, .inl t_echoes_hitBits)), ((g_t_adviser 0), .inr (0, [.ref (g_t_adviser 1)])), ((g_t_adviser 1), .inl (K 0, 61, .inl t_adviser_weight))]
def J_X10_more_57 (t_radar_gapCount : Int32) (t_radar_targetCount : Int32) (t_radar_gaps : Nat → Int32) (t_radar_settings : Nat → Int32) (t_radar_spots : Nat → Int32) (t_radar_speeds : Nat → Int32) (t_radar_strengths : Nat → Int32) (t_echoes_targets : Nat → Int32) (t_echoes_loud : Nat → Int32) (t_echoes_hitBits : Nat → Int32) (t_adviser_weight : Nat → Int32) : Option (Int32 × (Nat → Int32) × (Nat → Int32) × (Nat → Int32) × (Nat → Int32)) :=
  (F_X0_bestGap t_adviser_weight t_radar_gapCount t_radar_gaps).bind fun r_1 => (some (r_1, t_echoes_targets, t_echoes_loud, t_echoes_hitBits, t_adviser_weight))
set_option maxHeartbeats 4000000 in
set_option maxRecDepth 100000 in
theorem w_X10_more_57 {p : Program} {l : Launch} {e : Env} {s : State} {m : MethodId} {args : Array Value} {below : List Frame} {meth : Method} {c : Code} {D : va_G} {K : Nat → ClassId} {A : Nat → Prop} {Q : State → Prop} (C0 : cx_ p s m args c cX10_more 2 RX10 wsX10_more D K A) {g_t : Nat → Nat} {g_t_radar : Nat → Nat} {g_t_draft : Nat → Nat} {g_t_text : Nat → Nat} {g_t_reader : Nat → Nat} {g_t_history : Nat → Nat} {g_t_echoes : Nat → Nat} {g_t_tracks : Nat → Nat} {g_t_dwelling : Nat → Nat} {g_t_chooser : Nat → Nat} {g_t_adviser : Nat → Nat} {t_radar_gapCount : Int32} {t_radar_targetCount : Int32} {t_radar_lookCount : Int32} {t_radar_time : Int32} {t_radar_gone : Int32} {t_radar_gaps : Nat → Int32} {t_radar_settings : Nat → Int32} {t_radar_spots : Nat → Int32} {t_radar_speeds : Nat → Int32} {t_radar_strengths : Nat → Int32} {t_echoes_shownCount : Int32} {res : Int32 × (Nat → Int32) × (Nat → Int32) × (Nat → Int32) × (Nat → Int32)} (HR : ∀ (pc : Nat) (H : Heap) (locs : List Loc) (ls : Array Slot), decode cX10_more pc = .ok (.ireturn, 1) → va_P D vwCl (w_X10_more K g_t g_t_radar g_t_draft g_t_text g_t_reader g_t_history g_t_echoes g_t_tracks g_t_dwelling g_t_chooser g_t_adviser t_radar_gapCount t_radar_targetCount t_radar_lookCount t_radar_time t_radar_gone t_radar_gaps t_radar_settings t_radar_spots t_radar_speeds t_radar_strengths t_echoes_shownCount res.2.1 res.2.2.1 res.2.2.2.1 res.2.2.2.2) H → va_D A (w_X10_more K g_t g_t_radar g_t_draft g_t_text g_t_reader g_t_history g_t_echoes g_t_tracks g_t_dwelling g_t_chooser g_t_adviser t_radar_gapCount t_radar_targetCount t_radar_lookCount t_radar_time t_radar_gone t_radar_gaps t_radar_settings t_radar_spots t_radar_speeds t_radar_strengths t_echoes_shownCount res.2.1 res.2.2.1 res.2.2.2.1 res.2.2.2.2) → va_S A s.heap H locs → W p l e rmX10_more s m args below meth c H locs 0 0 Q (F0 m pc ls [.int res.1]))  :
    ∀ (t_echoes_targets : Nat → Int32) (t_echoes_loud : Nat → Int32) (t_echoes_hitBits : Nat → Int32) (t_adviser_weight : Nat → Int32) (H : Heap) (locs : List Loc) (ls : Array Slot), va_P D vwCl (w_X10_more K g_t g_t_radar g_t_draft g_t_text g_t_reader g_t_history g_t_echoes g_t_tracks g_t_dwelling g_t_chooser g_t_adviser t_radar_gapCount t_radar_targetCount t_radar_lookCount t_radar_time t_radar_gone t_radar_gaps t_radar_settings t_radar_spots t_radar_speeds t_radar_strengths t_echoes_shownCount t_echoes_targets t_echoes_loud t_echoes_hitBits t_adviser_weight) H → va_D A (w_X10_more K g_t g_t_radar g_t_draft g_t_text g_t_reader g_t_history g_t_echoes g_t_tracks g_t_dwelling g_t_chooser g_t_adviser t_radar_gapCount t_radar_targetCount t_radar_lookCount t_radar_time t_radar_gone t_radar_gaps t_radar_settings t_radar_spots t_radar_speeds t_radar_strengths t_echoes_shownCount t_echoes_targets t_echoes_loud t_echoes_hitBits t_adviser_weight) → va_S A s.heap H locs → lv_has ls 2 [(0, .ref (g_t 0))] → J_X10_more_57 t_radar_gapCount t_radar_targetCount t_radar_gaps t_radar_settings t_radar_spots t_radar_speeds t_radar_strengths t_echoes_targets t_echoes_loud t_echoes_hitBits t_adviser_weight = some res → W p l e rmX10_more s m args below meth c H locs 0 0 Q (F0 m 57 ls []) := by
  obtain ⟨⟨hx, hb, hml, hown, hts⟩, hK, -⟩ := id C0
  intro t_echoes_targets t_echoes_loud t_echoes_hitBits t_adviser_weight H locs ls hP hD hS hl hF
  unfold J_X10_more_57 at hF
  refine lv_aload_n hx hb dX10_more_57 rfl (lv_at hl 0 rfl) ?_
  refine va_get (D := D) (ci := 9) (v := .ref (g_t_adviser 0)) (C := RX10) (T := TX10) (N := 14) hx hb hts iw_X10_more_X10 hown hK hP 0 rfl rfl 12 (by decide) (hts _ fl_X10_more_83) (fun _ h9 => h9) rfl dX10_more_58 ?_
  refine lv_aload_n hx hb dX10_more_61 rfl (lv_at hl 0 rfl) ?_
  refine va_get (D := D) (ci := 9) (v := .ref (g_t_radar 0)) (C := RX10) (T := TX10) (N := 14) hx hb hts iw_X10_more_X10 hown hK hP 0 rfl rfl 0 (by decide) (hts _ fl_X10_more_10) (fun _ h9 => h9) rfl dX10_more_62 ?_
  obtain ⟨r_1, hc_2, hF⟩ := bn_some hF
  refine xc_i (wn := (w_X10_more K g_t g_t_radar g_t_draft g_t_text g_t_reader g_t_history g_t_echoes g_t_tracks g_t_dwelling g_t_chooser g_t_adviser t_radar_gapCount t_radar_targetCount t_radar_lookCount t_radar_time t_radar_gone t_radar_gaps t_radar_settings t_radar_spots t_radar_speeds t_radar_strengths t_echoes_shownCount t_echoes_targets t_echoes_loud t_echoes_hitBits t_adviser_weight)) hP hD hS C0.2.2.1 [11, 12, 1, 2] [0, 3, 4, 5, 6, 7, 8, 9, 10] [0, 11, 12, 1, 2, 3, 4, 5, 6, 7, 8, 9, 10] rfl rfl (by decide) (by decide) rfl (by decide) (va_runV (As := [.ref (g_t_radar 0)]) (rest := []) C0.1 (c_X0_bestGap l D K g_t_adviser g_t_radar t_adviser_weight t_radar_gapCount t_radar_targetCount t_radar_lookCount t_radar_time t_radar_gone t_radar_gaps r_1 hc_2 H.size) (cwV 1 hts gX10_more_X0_bestGap rfl rfl rfl (by decide +kernel) ⟨Nat.le_of_ble_eq_true rfl, Nat.le_of_ble_eq_true rfl⟩) (xp_V C0.2 hP hD hS [11, 12, 1, 2] rfl (by decide) 0 0 rfl rfl rfl) rfl rfl hl.1 rfl (lv_room (Nat.le_of_ble_eq_true rfl)) dX10_more_65 ⟨Nat.le_of_ble_eq_true rfl, Nat.le_of_ble_eq_true rfl⟩) (fun H locs hP hD hS => ?_)
  obtain rfl := Option.some.inj hF
  exact HR 68 H locs ls dX10_more_68 hP hD hS
def F_X10_more (t_radar_gapCount : Int32) (t_radar_targetCount : Int32) (t_radar_gaps : Nat → Int32) (t_radar_settings : Nat → Int32) (t_radar_spots : Nat → Int32) (t_radar_speeds : Nat → Int32) (t_radar_strengths : Nat → Int32) (t_echoes_targets : Nat → Int32) (t_echoes_loud : Nat → Int32) (t_echoes_hitBits : Nat → Int32) (t_adviser_weight : Nat → Int32) (x1 : Int32) : Option (Int32 × (Nat → Int32) × (Nat → Int32) × (Nat → Int32) × (Nat → Int32)) :=
  if t_radar_gapCount < (5 : Int32) then (if x1 = (0 : Int32) then ((F_X0_weighDark t_adviser_weight t_radar_gapCount t_radar_gaps t_radar_settings).bind fun r_3 => (J_X10_more_57 t_radar_gapCount t_radar_targetCount t_radar_gaps t_radar_settings t_radar_spots t_radar_speeds t_radar_strengths t_echoes_targets t_echoes_loud t_echoes_hitBits r_3)) else ((F_X3_listen t_echoes_targets t_echoes_loud t_radar_gapCount t_radar_targetCount t_radar_gaps t_radar_settings t_radar_spots t_radar_speeds t_radar_strengths).bind fun r_5 => ((F_X0_weighGhosts t_adviser_weight t_radar_gapCount t_radar_targetCount t_radar_gaps t_radar_settings t_radar_spots t_radar_speeds t_radar_strengths r_5.1 r_5.2 t_echoes_hitBits).bind fun r_7 => (J_X10_more_57 t_radar_gapCount t_radar_targetCount t_radar_gaps t_radar_settings t_radar_spots t_radar_speeds t_radar_strengths r_7.2.1 r_7.2.2.1 r_7.2.2.2 r_7.1)))) else (some ((-1 : Int32), t_echoes_targets, t_echoes_loud, t_echoes_hitBits, t_adviser_weight))
set_option maxHeartbeats 4000000 in
set_option maxRecDepth 100000 in
theorem c_X10_more (l : Launch) (D : va_G) (K : Nat → ClassId) (g_t : Nat → Nat) (g_t_radar : Nat → Nat) (g_t_draft : Nat → Nat) (g_t_text : Nat → Nat) (g_t_reader : Nat → Nat) (g_t_history : Nat → Nat) (g_t_echoes : Nat → Nat) (g_t_tracks : Nat → Nat) (g_t_dwelling : Nat → Nat) (g_t_chooser : Nat → Nat) (g_t_adviser : Nat → Nat) (t_radar_gapCount : Int32) (t_radar_targetCount : Int32) (t_radar_lookCount : Int32) (t_radar_time : Int32) (t_radar_gone : Int32) (t_radar_gaps : Nat → Int32) (t_radar_settings : Nat → Int32) (t_radar_spots : Nat → Int32) (t_radar_speeds : Nat → Int32) (t_radar_strengths : Nat → Int32) (t_echoes_shownCount : Int32) (t_echoes_targets : Nat → Int32) (t_echoes_loud : Nat → Int32) (t_echoes_hitBits : Nat → Int32) (t_adviser_weight : Nat → Int32) (x1 : Int32) (res : Int32 × (Nat → Int32) × (Nat → Int32) × (Nat → Int32) × (Nat → Int32)) (hF : F_X10_more t_radar_gapCount t_radar_targetCount t_radar_gaps t_radar_settings t_radar_spots t_radar_speeds t_radar_strengths t_echoes_targets t_echoes_loud t_echoes_hitBits t_adviser_weight x1 = some res) :
    Mi_ l yX10_more wsX10_more rmX10_more D K [.ref (g_t 0), .int x1] (w_X10_more K g_t g_t_radar g_t_draft g_t_text g_t_reader g_t_history g_t_echoes g_t_tracks g_t_dwelling g_t_chooser g_t_adviser t_radar_gapCount t_radar_targetCount t_radar_lookCount t_radar_time t_radar_gone t_radar_gaps t_radar_settings t_radar_spots t_radar_speeds t_radar_strengths t_echoes_shownCount t_echoes_targets t_echoes_loud t_echoes_hitBits t_adviser_weight) (w_X10_more K g_t g_t_radar g_t_draft g_t_text g_t_reader g_t_history g_t_echoes g_t_tracks g_t_dwelling g_t_chooser g_t_adviser t_radar_gapCount t_radar_targetCount t_radar_lookCount t_radar_time t_radar_gone t_radar_gaps t_radar_settings t_radar_spots t_radar_speeds t_radar_strengths t_echoes_shownCount res.2.1 res.2.2.1 res.2.2.2.1 res.2.2.2.2) (res.1) := by
  refine en_i (cc := cX10_more) (maxL := 2) (own := RX10) (by decide) rfl rfl (Nat.le_of_ble_eq_true rfl) ?_
  intro p e s m args below meth c A Q H locs ls C0 hP hD hS hl HR
  obtain ⟨⟨hx, hb, hml, hown, hts⟩, hK, -⟩ := id C0
  have hl : lv_has ls 2 [(0, .ref (g_t 0)), (1, .int x1)] := hl
  unfold F_X10_more at hF
  refine lv_aload_n hx hb dX10_more_0 rfl (lv_at hl 0 rfl) ?_
  refine va_get (D := D) (ci := 9) (v := .ref (g_t_radar 0)) (C := RX10) (T := TX10) (N := 14) hx hb hts iw_X10_more_X10 hown hK hP 0 rfl rfl 0 (by decide) (hts _ fl_X10_more_10) (fun _ h9 => h9) rfl dX10_more_1 ?_
  refine va_get (D := D) (ci := 5) (v := .int t_radar_gapCount) (C := RX5) (T := TX5) (N := 13) hx hb hts iw_X10_more_X5 hown hK hP 1 rfl rfl 8 (by decide) (hts _ fl_X10_more_122) (fun _ h9 => h9) rfl dX10_more_4 ?_
  refine lv_iconst (v := 5) hx hb dX10_more_7 (by decide) ?_
  refine lv_icmp_lt (tgt := 13) hx hb dX10_more_8 (by decide) (fun c_1 => ?_) (fun c_1 => ?_)
  · have hF := it_pos c_1 hF
    refine lv_iload_n hx hb dX10_more_13 rfl (lv_at hl 1 rfl) ?_
    refine lv_if_eq (tgt := 46) hx hb dX10_more_14 (by decide) (fun c_2 => ?_) (fun c_2 => ?_)
    · have hF := it_pos c_2 hF
      refine lv_aload_n hx hb dX10_more_46 rfl (lv_at hl 0 rfl) ?_
      refine va_get (D := D) (ci := 9) (v := .ref (g_t_adviser 0)) (C := RX10) (T := TX10) (N := 14) hx hb hts iw_X10_more_X10 hown hK hP 0 rfl rfl 12 (by decide) (hts _ fl_X10_more_83) (fun _ h9 => h9) rfl dX10_more_47 ?_
      refine lv_aload_n hx hb dX10_more_50 rfl (lv_at hl 0 rfl) ?_
      refine va_get (D := D) (ci := 9) (v := .ref (g_t_radar 0)) (C := RX10) (T := TX10) (N := 14) hx hb hts iw_X10_more_X10 hown hK hP 0 rfl rfl 0 (by decide) (hts _ fl_X10_more_10) (fun _ h9 => h9) rfl dX10_more_51 ?_
      obtain ⟨r_3, hc_4, hF⟩ := bn_some hF
      refine xc_v (wn := (w_X10_more K g_t g_t_radar g_t_draft g_t_text g_t_reader g_t_history g_t_echoes g_t_tracks g_t_dwelling g_t_chooser g_t_adviser t_radar_gapCount t_radar_targetCount t_radar_lookCount t_radar_time t_radar_gone t_radar_gaps t_radar_settings t_radar_spots t_radar_speeds t_radar_strengths t_echoes_shownCount t_echoes_targets t_echoes_loud t_echoes_hitBits r_3)) hP hD hS C0.2.2.1 [11, 12, 1, 2, 3] [0, 4, 5, 6, 7, 8, 9, 10] [0, 10, 11, 12, 1, 2, 3, 4, 5, 6, 7, 8, 9] rfl rfl (by decide) (by decide) rfl (by decide) (va_runV (As := [.ref (g_t_radar 0)]) (rest := []) C0.1 (c_X0_weighDark l D K g_t_adviser g_t_radar t_adviser_weight t_radar_gapCount t_radar_targetCount t_radar_lookCount t_radar_time t_radar_gone t_radar_gaps t_radar_settings r_3 hc_4 H.size) (cwV 1 hts gX10_more_X0_weighDark rfl rfl rfl (by decide +kernel) ⟨Nat.le_of_ble_eq_true rfl, Nat.le_of_ble_eq_true rfl⟩) (xp_V C0.2 hP hD hS [11, 12, 1, 2, 3] rfl (by decide) 0 0 rfl rfl rfl) rfl rfl hl.1 rfl (lv_room (Nat.le_of_ble_eq_true rfl)) dX10_more_54 ⟨Nat.le_of_ble_eq_true rfl, Nat.le_of_ble_eq_true rfl⟩) (fun H locs hP hD hS => ?_)
      exact w_X10_more_57 C0 HR t_echoes_targets t_echoes_loud t_echoes_hitBits r_3 H locs ls hP hD hS (lv_sub hl [0] rfl) hF
    · have hF := it_neg c_2 hF
      refine lv_aload_n hx hb dX10_more_17 rfl (lv_at hl 0 rfl) ?_
      refine va_get (D := D) (ci := 9) (v := .ref (g_t_echoes 0)) (C := RX10) (T := TX10) (N := 14) hx hb hts iw_X10_more_X10 hown hK hP 0 rfl rfl 8 (by decide) (hts _ fl_X10_more_55) (fun _ h9 => h9) rfl dX10_more_18 ?_
      refine lv_aload_n hx hb dX10_more_21 rfl (lv_at hl 0 rfl) ?_
      refine va_get (D := D) (ci := 9) (v := .ref (g_t_radar 0)) (C := RX10) (T := TX10) (N := 14) hx hb hts iw_X10_more_X10 hown hK hP 0 rfl rfl 0 (by decide) (hts _ fl_X10_more_10) (fun _ h9 => h9) rfl dX10_more_22 ?_
      obtain ⟨r_5, hc_6, hF⟩ := bn_some hF
      refine xc_v (wn := (w_X10_more K g_t g_t_radar g_t_draft g_t_text g_t_reader g_t_history g_t_echoes g_t_tracks g_t_dwelling g_t_chooser g_t_adviser t_radar_gapCount t_radar_targetCount t_radar_lookCount t_radar_time t_radar_gone t_radar_gaps t_radar_settings t_radar_spots t_radar_speeds t_radar_strengths t_echoes_shownCount r_5.1 r_5.2 t_echoes_hitBits t_adviser_weight)) hP hD hS C0.2.2.1 [7, 8, 9, 1, 2, 3, 4, 5, 6] [0, 10, 11, 12] [0, 7, 8, 9, 10, 11, 12, 4, 5, 6, 1, 2, 3] rfl rfl (by decide) (by decide) rfl (by decide) (va_runV (As := [.ref (g_t_radar 0)]) (rest := []) C0.1 (c_X3_listen l D K g_t_echoes g_t_radar t_echoes_shownCount t_echoes_targets t_echoes_loud t_radar_gapCount t_radar_targetCount t_radar_lookCount t_radar_time t_radar_gone t_radar_gaps t_radar_settings t_radar_spots t_radar_speeds t_radar_strengths r_5 hc_6 H.size) (cwV 1 hts gX10_more_X3_listen rfl rfl rfl (by decide +kernel) ⟨Nat.le_of_ble_eq_true rfl, Nat.le_of_ble_eq_true rfl⟩) (xp_V C0.2 hP hD hS [7, 8, 9, 1, 2, 3, 4, 5, 6] rfl (by decide) 3 0 rfl rfl rfl) rfl rfl hl.1 rfl (lv_room (Nat.le_of_ble_eq_true rfl)) dX10_more_25 ⟨Nat.le_of_ble_eq_true rfl, Nat.le_of_ble_eq_true rfl⟩) (fun H locs hP hD hS => ?_)
      refine lv_aload_n hx hb dX10_more_28 rfl (lv_at hl 0 rfl) ?_
      refine va_get (D := D) (ci := 9) (v := .ref (g_t_adviser 0)) (C := RX10) (T := TX10) (N := 14) hx hb hts iw_X10_more_X10 hown hK hP 0 rfl rfl 12 (by decide) (hts _ fl_X10_more_83) (fun _ h9 => h9) rfl dX10_more_29 ?_
      refine lv_aload_n hx hb dX10_more_32 rfl (lv_at hl 0 rfl) ?_
      refine va_get (D := D) (ci := 9) (v := .ref (g_t_radar 0)) (C := RX10) (T := TX10) (N := 14) hx hb hts iw_X10_more_X10 hown hK hP 0 rfl rfl 0 (by decide) (hts _ fl_X10_more_10) (fun _ h9 => h9) rfl dX10_more_33 ?_
      refine lv_aload_n hx hb dX10_more_36 rfl (lv_at hl 0 rfl) ?_
      refine va_get (D := D) (ci := 9) (v := .ref (g_t_echoes 0)) (C := RX10) (T := TX10) (N := 14) hx hb hts iw_X10_more_X10 hown hK hP 0 rfl rfl 8 (by decide) (hts _ fl_X10_more_55) (fun _ h9 => h9) rfl dX10_more_37 ?_
      obtain ⟨r_7, hc_8, hF⟩ := bn_some hF
      refine xc_v (wn := (w_X10_more K g_t g_t_radar g_t_draft g_t_text g_t_reader g_t_history g_t_echoes g_t_tracks g_t_dwelling g_t_chooser g_t_adviser t_radar_gapCount t_radar_targetCount t_radar_lookCount t_radar_time t_radar_gone t_radar_gaps t_radar_settings t_radar_spots t_radar_speeds t_radar_strengths t_echoes_shownCount r_7.2.1 r_7.2.2.1 r_7.2.2.2 r_7.1)) hP hD hS C0.2.2.1 [11, 12, 1, 2, 3, 4, 5, 6, 7, 8, 9, 10] [0] [0, 3, 4, 5, 6, 7, 8, 9, 10, 11, 12, 1, 2] rfl rfl (by decide) (by decide) rfl (by decide) (va_runV (As := [.ref (g_t_radar 0), .ref (g_t_echoes 0)]) (rest := []) C0.1 (c_X0_weighGhosts l D K g_t_adviser g_t_radar g_t_echoes t_adviser_weight t_radar_gapCount t_radar_targetCount t_radar_lookCount t_radar_time t_radar_gone t_radar_gaps t_radar_settings t_radar_spots t_radar_speeds t_radar_strengths t_echoes_shownCount r_5.1 r_5.2 t_echoes_hitBits r_7 hc_8 H.size) (cwV 2 hts gX10_more_X0_weighGhosts rfl rfl rfl (by decide +kernel) ⟨Nat.le_of_ble_eq_true rfl, Nat.le_of_ble_eq_true rfl⟩) (xp_V C0.2 hP hD hS [11, 12, 1, 2, 3, 4, 5, 6, 7, 8, 9, 10] rfl (by decide) 0 0 rfl rfl rfl) rfl rfl hl.1 rfl (lv_room (Nat.le_of_ble_eq_true rfl)) dX10_more_40 ⟨Nat.le_of_ble_eq_true rfl, Nat.le_of_ble_eq_true rfl⟩) (fun H locs hP hD hS => ?_)
      refine lv_goto (tgt := 57) hx hb dX10_more_43 (by decide) ?_
      exact w_X10_more_57 C0 HR r_7.2.1 r_7.2.2.1 r_7.2.2.2 r_7.1 H locs ls hP hD hS (lv_sub hl [0] rfl) hF
  · have hF := it_neg c_1 hF
    refine lv_iconst (v := (-1)) hx hb dX10_more_11 (by decide) ?_
    obtain rfl := Option.some.inj hF
    exact HR 12 H locs ls dX10_more_12 hP hD hS

/-! StaggerRadar.Radar.spotAfter(II)I -/
abbrev rmX5_spotAfter : Room := { frames := 0, cells := 0, slots := 0, locals := 0 }
theorem fl_X5_spotAfter_18 : Cond.fieldLink RX5 18 "StaggerRadar$Radar" "spots" "[I" ∈ wsX5_spotAfter := by decide +kernel
theorem fl_X5_spotAfter_21 : Cond.fieldLink RX5 21 "StaggerRadar$Radar" "speeds" "[I" ∈ wsX5_spotAfter := by decide +kernel
theorem iw_X5_spotAfter_X5 : ∀ w ∈ u_ws RX5 TX5 13, w ∈ wsX5_spotAfter := by decide +kernel
abbrev w_X5_spotAfter (K : Nat → ClassId) (g_t : Nat → Nat) (t_gapCount : Int32) (t_targetCount : Int32) (t_lookCount : Int32) (t_time : Int32) (t_gone : Int32) (t_spots : Nat → Int32) (t_speeds : Nat → Int32) : va_W := [((g_t 0), .inr (5, [.ref (g_t 1), .ref (g_t 2), .ref (g_t 3), .ref (g_t 4), .ref (g_t 5), .ref (g_t 6), .ref (g_t 7), .ref (g_t 8), .int t_gapCount, .int t_targetCount, .int t_lookCount, .int t_time, .int t_gone])), ((g_t 3), .inl (K 0, 8, .inl t_spots)), ((g_t 4), .inl (K 0, 8, .inl t_speeds))]
def F_X5_spotAfter (t_spots : Nat → Int32) (t_speeds : Nat → Int32) (x1 : Int32) (x2 : Int32) : Option (Int32) :=
  gd_ (in_b x1 8) (gd_ (in_b x1 8) (some ((t_spots (x1).toNatClampNeg) + ((t_speeds (x1).toNatClampNeg) * x2))))
set_option maxHeartbeats 4000000 in
set_option maxRecDepth 100000 in
theorem c_X5_spotAfter (l : Launch) (D : va_G) (K : Nat → ClassId) (g_t : Nat → Nat) (t_gapCount : Int32) (t_targetCount : Int32) (t_lookCount : Int32) (t_time : Int32) (t_gone : Int32) (t_spots : Nat → Int32) (t_speeds : Nat → Int32) (x1 : Int32) (x2 : Int32) (res : Int32) (hF : F_X5_spotAfter t_spots t_speeds x1 x2 = some res) :
    Mi_ l yX5_spotAfter wsX5_spotAfter rmX5_spotAfter D K [.ref (g_t 0), .int x1, .int x2] (w_X5_spotAfter K g_t t_gapCount t_targetCount t_lookCount t_time t_gone t_spots t_speeds) (w_X5_spotAfter K g_t t_gapCount t_targetCount t_lookCount t_time t_gone t_spots t_speeds) (res) := by
  refine en_i (cc := cX5_spotAfter) (maxL := 3) (own := RX5) (by decide) rfl rfl (Nat.le_of_ble_eq_true rfl) ?_
  intro p e s m args below meth c A Q H locs ls C0 hP hD hS hl HR
  obtain ⟨⟨hx, hb, hml, hown, hts⟩, hK, -⟩ := id C0
  have hl : lv_has ls 3 [(0, .ref (g_t 0)), (1, .int x1), (2, .int x2)] := hl
  unfold F_X5_spotAfter at hF
  refine lv_aload_n hx hb dX5_spotAfter_0 rfl (lv_at hl 0 rfl) ?_
  refine va_get (D := D) (ci := 5) (v := .ref (g_t 3)) (C := RX5) (T := TX5) (N := 13) hx hb hts iw_X5_spotAfter_X5 hown hK hP 0 rfl rfl 2 (by decide) (hts _ fl_X5_spotAfter_18) (fun _ h9 => h9) rfl dX5_spotAfter_1 ?_
  refine lv_iload_n hx hb dX5_spotAfter_4 rfl (lv_at hl 1 rfl) ?_
  obtain ⟨hg_1, hF⟩ := gd_some hF
  refine xl_i (f := t_spots) hx hb hK hP 1 0 rfl rfl rfl (in_v hg_1) dX5_spotAfter_5 ?_
  refine lv_aload_n hx hb dX5_spotAfter_6 rfl (lv_at hl 0 rfl) ?_
  refine va_get (D := D) (ci := 5) (v := .ref (g_t 4)) (C := RX5) (T := TX5) (N := 13) hx hb hts iw_X5_spotAfter_X5 hown hK hP 0 rfl rfl 3 (by decide) (hts _ fl_X5_spotAfter_21) (fun _ h9 => h9) rfl dX5_spotAfter_7 ?_
  refine lv_iload_n hx hb dX5_spotAfter_10 rfl (lv_at hl 1 rfl) ?_
  obtain ⟨hg_2, hF⟩ := gd_some hF
  refine xl_i (f := t_speeds) hx hb hK hP 2 0 rfl rfl rfl (in_v hg_2) dX5_spotAfter_11 ?_
  refine lv_iload_n hx hb dX5_spotAfter_12 rfl (lv_at hl 2 rfl) ?_
  refine lv_imul hx hb dX5_spotAfter_13 ?_
  refine lv_iadd hx hb dX5_spotAfter_14 ?_
  obtain rfl := Option.some.inj hF
  exact HR 15 H locs ls dX5_spotAfter_15 hP hD hS

/-! StaggerRadar.Radar.pass(I)I -/
abbrev rmX5_pass : Room := { frames := 2, cells := 0, slots := 0, locals := 43 }
theorem fl_X5_pass_18 : Cond.fieldLink RX5 18 "StaggerRadar$Radar" "spots" "[I" ∈ wsX5_pass := by decide +kernel
theorem fl_X5_pass_49 : Cond.fieldLink RX5 49 "StaggerRadar$Radar" "targetCount" "I" ∈ wsX5_pass := by decide +kernel
theorem fl_X5_pass_55 : Cond.fieldLink RX5 55 "StaggerRadar$Radar" "time" "I" ∈ wsX5_pass := by decide +kernel
theorem fl_X5_pass_58 : Cond.fieldLink RX5 58 "StaggerRadar$Radar" "gone" "I" ∈ wsX5_pass := by decide +kernel
theorem ld_X5_pass_72 : Cond.constant RX5 72 (47999) ∈ wsX5_pass := by decide +kernel
theorem iw_X5_pass_X5 : ∀ w ∈ u_ws RX5 TX5 13, w ∈ wsX5_pass := by decide +kernel
abbrev w_X5_pass (K : Nat → ClassId) (g_t : Nat → Nat) (t_gapCount : Int32) (t_targetCount : Int32) (t_lookCount : Int32) (t_time : Int32) (t_gone : Int32) (t_spots : Nat → Int32) (t_speeds : Nat → Int32) (t_strengths : Nat → Int32) : va_W := [((g_t 0), .inr (5, [.ref (g_t 1), .ref (g_t 2), .ref (g_t 3), .ref (g_t 4), .ref (g_t 5), .ref (g_t 6), .ref (g_t 7), .ref (g_t 8), .int t_gapCount, .int t_targetCount, .int t_lookCount, .int t_time, .int t_gone])), ((g_t 3), .inl (K 0, 8, .inl t_spots)), ((g_t 4), .inl (K 0, 8, .inl t_speeds)), ((g_t 5), .inl (K 0, 8, .inl t_strengths))]
def J_X5_pass_54 (t_targetCount : Int32) (t_time : Int32) (t_gone : Int32) (t_spots : Nat → Int32) (t_speeds : Nat → Int32) (t_strengths : Nat → Int32) (x1 : Int32) (x2 : Int32) : Option (Int32 × Int32 × Int32 × Int32 × (Nat → Int32) × (Nat → Int32) × (Nat → Int32)) :=
  some ((x2 - t_targetCount), t_targetCount, (t_time + x1), (t_gone + (x2 - t_targetCount)), t_spots, t_speeds, t_strengths)
set_option maxHeartbeats 4000000 in
set_option maxRecDepth 100000 in
theorem w_X5_pass_54 {p : Program} {l : Launch} {e : Env} {s : State} {m : MethodId} {args : Array Value} {below : List Frame} {meth : Method} {c : Code} {D : va_G} {K : Nat → ClassId} {A : Nat → Prop} {Q : State → Prop} (C0 : cx_ p s m args c cX5_pass 5 RX5 wsX5_pass D K A) {g_t : Nat → Nat} {t_gapCount : Int32} {t_lookCount : Int32} {res : Int32 × Int32 × Int32 × Int32 × (Nat → Int32) × (Nat → Int32) × (Nat → Int32)} (HR : ∀ (pc : Nat) (H : Heap) (locs : List Loc) (ls : Array Slot), decode cX5_pass pc = .ok (.ireturn, 1) → va_P D vwCl (w_X5_pass K g_t t_gapCount res.2.1 t_lookCount res.2.2.1 res.2.2.2.1 res.2.2.2.2.1 res.2.2.2.2.2.1 res.2.2.2.2.2.2) H → va_D A (w_X5_pass K g_t t_gapCount res.2.1 t_lookCount res.2.2.1 res.2.2.2.1 res.2.2.2.2.1 res.2.2.2.2.2.1 res.2.2.2.2.2.2) → va_S A s.heap H locs → W p l e rmX5_pass s m args below meth c H locs 0 0 Q (F0 m pc ls [.int res.1]))  :
    ∀ (t_targetCount : Int32) (t_time : Int32) (t_gone : Int32) (t_spots : Nat → Int32) (t_speeds : Nat → Int32) (t_strengths : Nat → Int32) (x1 : Int32) (x2 : Int32) (H : Heap) (locs : List Loc) (ls : Array Slot), va_P D vwCl (w_X5_pass K g_t t_gapCount t_targetCount t_lookCount t_time t_gone t_spots t_speeds t_strengths) H → va_D A (w_X5_pass K g_t t_gapCount t_targetCount t_lookCount t_time t_gone t_spots t_speeds t_strengths) → va_S A s.heap H locs → lv_has ls 5 [(0, .ref (g_t 0)), (1, .int x1), (2, .int x2)] → J_X5_pass_54 t_targetCount t_time t_gone t_spots t_speeds t_strengths x1 x2 = some res → W p l e rmX5_pass s m args below meth c H locs 0 0 Q (F0 m 54 ls []) := by
  obtain ⟨⟨hx, hb, hml, hown, hts⟩, hK, -⟩ := id C0
  intro t_targetCount t_time t_gone t_spots t_speeds t_strengths x1 x2 H locs ls hP hD hS hl hF
  unfold J_X5_pass_54 at hF
  refine lv_aload_n hx hb dX5_pass_54 rfl (lv_at hl 0 rfl) ?_
  refine lv_dup hx hb dX5_pass_55 rfl ?_
  refine va_get (D := D) (ci := 5) (v := .int t_time) (C := RX5) (T := TX5) (N := 13) hx hb hts iw_X5_pass_X5 hown hK hP 0 rfl rfl 11 (by decide) (hts _ fl_X5_pass_55) (fun _ h9 => h9) rfl dX5_pass_56 ?_
  refine lv_iload_n hx hb dX5_pass_59 rfl (lv_at hl 1 rfl) ?_
  refine lv_iadd hx hb dX5_pass_60 ?_
  refine va_put (D := D) (ci := 5) (v := .int (t_time + x1)) (ty := .int) (C := RX5) (T := TX5) (N := 13) hx hb hts iw_X5_pass_X5 tyX5 tyX5_ok nmX5 hown hK hP hD hS 0 rfl rfl 11 (by decide) (hts _ fl_X5_pass_55) (fun _ h9 => h9) rfl (by decide +kernel) rfl rfl (Nat.le_of_ble_eq_true rfl) dX5_pass_61 (fun H locs hP hD hS => ?_)
  have hP : va_P D vwCl (w_X5_pass K g_t t_gapCount t_targetCount t_lookCount (t_time + x1) t_gone t_spots t_speeds t_strengths) H := hP
  have hD : va_D A (w_X5_pass K g_t t_gapCount t_targetCount t_lookCount (t_time + x1) t_gone t_spots t_speeds t_strengths) := hD
  refine lv_aload_n hx hb dX5_pass_64 rfl (lv_at hl 0 rfl) ?_
  refine lv_dup hx hb dX5_pass_65 rfl ?_
  refine va_get (D := D) (ci := 5) (v := .int t_gone) (C := RX5) (T := TX5) (N := 13) hx hb hts iw_X5_pass_X5 hown hK hP 0 rfl rfl 12 (by decide) (hts _ fl_X5_pass_58) (fun _ h9 => h9) rfl dX5_pass_66 ?_
  refine lv_iload_n hx hb dX5_pass_69 rfl (lv_at hl 2 rfl) ?_
  refine lv_aload_n hx hb dX5_pass_70 rfl (lv_at hl 0 rfl) ?_
  refine va_get (D := D) (ci := 5) (v := .int t_targetCount) (C := RX5) (T := TX5) (N := 13) hx hb hts iw_X5_pass_X5 hown hK hP 0 rfl rfl 9 (by decide) (hts _ fl_X5_pass_49) (fun _ h9 => h9) rfl dX5_pass_71 ?_
  refine lv_isub hx hb dX5_pass_74 ?_
  refine lv_iadd hx hb dX5_pass_75 ?_
  refine va_put (D := D) (ci := 5) (v := .int (t_gone + (x2 - t_targetCount))) (ty := .int) (C := RX5) (T := TX5) (N := 13) hx hb hts iw_X5_pass_X5 tyX5 tyX5_ok nmX5 hown hK hP hD hS 0 rfl rfl 12 (by decide) (hts _ fl_X5_pass_58) (fun _ h9 => h9) rfl (by decide +kernel) rfl rfl (Nat.le_of_ble_eq_true rfl) dX5_pass_76 (fun H locs hP hD hS => ?_)
  have hP : va_P D vwCl (w_X5_pass K g_t t_gapCount t_targetCount t_lookCount (t_time + x1) (t_gone + (x2 - t_targetCount)) t_spots t_speeds t_strengths) H := hP
  have hD : va_D A (w_X5_pass K g_t t_gapCount t_targetCount t_lookCount (t_time + x1) (t_gone + (x2 - t_targetCount)) t_spots t_speeds t_strengths) := hD
  refine lv_iload_n hx hb dX5_pass_79 rfl (lv_at hl 2 rfl) ?_
  refine lv_aload_n hx hb dX5_pass_80 rfl (lv_at hl 0 rfl) ?_
  refine va_get (D := D) (ci := 5) (v := .int t_targetCount) (C := RX5) (T := TX5) (N := 13) hx hb hts iw_X5_pass_X5 hown hK hP 0 rfl rfl 9 (by decide) (hts _ fl_X5_pass_49) (fun _ h9 => h9) rfl dX5_pass_81 ?_
  refine lv_isub hx hb dX5_pass_84 ?_
  obtain rfl := Option.some.inj hF
  exact HR 85 H locs ls dX5_pass_85 hP hD hS
def L_X5_pass_9  : Nat → Int32 → Int32 → Int32 → (Nat → Int32) → (Nat → Int32) → (Nat → Int32) → Int32 → Int32 → Int32 → Option (Int32 × Int32 × Int32 × Int32 × (Nat → Int32) × (Nat → Int32) × (Nat → Int32))
  | 0, _, _, _, _, _, _, _, _, _ => none
  | n_ + 1, t_targetCount, t_time, t_gone, t_spots, t_speeds, t_strengths, x1, x2, x3 =>
    if x3 < (0 : Int32) then (J_X5_pass_54 t_targetCount t_time t_gone t_spots t_speeds t_strengths x1 x2) else ((F_X5_spotAfter t_spots t_speeds x3 x1).bind fun r_2 => ((F_X10_isWithin r_2 (0 : Int32) (47999 : Int32)).bind fun r_4 => (if r_4 = (0 : Int32) then ((F_X5_dropTarget t_targetCount t_spots t_speeds t_strengths x3).bind fun r_7 => (L_X5_pass_9 n_ r_7.1 t_time t_gone r_7.2.1 r_7.2.2.1 r_7.2.2.2 x1 x2 (x3 + (-1 : Int32)))) else (gd_ (in_b x3 8) (L_X5_pass_9 n_ t_targetCount t_time t_gone (upd t_spots (x3).toNatClampNeg r_2) t_speeds t_strengths x1 x2 (x3 + (-1 : Int32)))))))
set_option maxHeartbeats 4000000 in
set_option maxRecDepth 100000 in
theorem w_X5_pass_9 {p : Program} {l : Launch} {e : Env} {s : State} {m : MethodId} {args : Array Value} {below : List Frame} {meth : Method} {c : Code} {D : va_G} {K : Nat → ClassId} {A : Nat → Prop} {Q : State → Prop} (C0 : cx_ p s m args c cX5_pass 5 RX5 wsX5_pass D K A) {g_t : Nat → Nat} {t_gapCount : Int32} {t_lookCount : Int32} {res : Int32 × Int32 × Int32 × Int32 × (Nat → Int32) × (Nat → Int32) × (Nat → Int32)} (HR : ∀ (pc : Nat) (H : Heap) (locs : List Loc) (ls : Array Slot), decode cX5_pass pc = .ok (.ireturn, 1) → va_P D vwCl (w_X5_pass K g_t t_gapCount res.2.1 t_lookCount res.2.2.1 res.2.2.2.1 res.2.2.2.2.1 res.2.2.2.2.2.1 res.2.2.2.2.2.2) H → va_D A (w_X5_pass K g_t t_gapCount res.2.1 t_lookCount res.2.2.1 res.2.2.2.1 res.2.2.2.2.1 res.2.2.2.2.2.1 res.2.2.2.2.2.2) → va_S A s.heap H locs → W p l e rmX5_pass s m args below meth c H locs 0 0 Q (F0 m pc ls [.int res.1]))  :
    ∀ (n_ : Nat) (t_targetCount : Int32) (t_time : Int32) (t_gone : Int32) (t_spots : Nat → Int32) (t_speeds : Nat → Int32) (t_strengths : Nat → Int32) (x1 : Int32) (x2 : Int32) (x3 : Int32) (H : Heap) (locs : List Loc) (ls : Array Slot), va_P D vwCl (w_X5_pass K g_t t_gapCount t_targetCount t_lookCount t_time t_gone t_spots t_speeds t_strengths) H → va_D A (w_X5_pass K g_t t_gapCount t_targetCount t_lookCount t_time t_gone t_spots t_speeds t_strengths) → va_S A s.heap H locs → lv_has ls 5 [(0, .ref (g_t 0)), (1, .int x1), (2, .int x2), (3, .int x3)] → L_X5_pass_9 n_ t_targetCount t_time t_gone t_spots t_speeds t_strengths x1 x2 x3 = some res → W p l e rmX5_pass s m args below meth c H locs 0 0 Q (F0 m 9 ls []) := by
  obtain ⟨⟨hx, hb, hml, hown, hts⟩, hK, -⟩ := id C0
  intro n_
  induction n_ with
  | zero =>
    intro t_targetCount t_time t_gone t_spots t_speeds t_strengths x1 x2 x3 H locs ls hP hD hS hl hF
    exact no_s (show (none : Option (Int32 × Int32 × Int32 × Int32 × (Nat → Int32) × (Nat → Int32) × (Nat → Int32))) = some res from hF)
  | succ n_ ih =>
    intro t_targetCount t_time t_gone t_spots t_speeds t_strengths x1 x2 x3 H locs ls hP hD hS hl hF
    rw [L_X5_pass_9] at hF
    refine lv_iload_n hx hb dX5_pass_9 rfl (lv_at hl 3 rfl) ?_
    refine lv_if_lt (tgt := 54) hx hb dX5_pass_10 (by decide) (fun c_1 => ?_) (fun c_1 => ?_)
    · have hF := it_pos c_1 hF
      exact w_X5_pass_54 C0 HR t_targetCount t_time t_gone t_spots t_speeds t_strengths x1 x2 H locs ls hP hD hS (lv_sub hl [0, 1, 2] rfl) hF
    · have hF := it_neg c_1 hF
      refine lv_aload_n hx hb dX5_pass_13 rfl (lv_at hl 0 rfl) ?_
      refine lv_iload_n hx hb dX5_pass_14 rfl (lv_at hl 3 rfl) ?_
      refine lv_iload_n hx hb dX5_pass_15 rfl (lv_at hl 1 rfl) ?_
      obtain ⟨r_2, hc_3, hF⟩ := bn_some hF
      refine xc_i (wn := (w_X5_pass K g_t t_gapCount t_targetCount t_lookCount t_time t_gone t_spots t_speeds t_strengths)) hP hD hS C0.2.2.1 [0, 1, 2] [3] [1, 2, 3, 0] rfl rfl (by decide) (by decide) rfl (by decide) (va_runV (As := [.int x3, .int x1]) (rest := []) C0.1 (c_X5_spotAfter l D K g_t t_gapCount t_targetCount t_lookCount t_time t_gone t_spots t_speeds x3 x1 r_2 hc_3 H.size) (cwV 2 hts gX5_pass_X5_spotAfter rfl rfl rfl (by decide +kernel) ⟨Nat.le_of_ble_eq_true rfl, Nat.le_of_ble_eq_true rfl⟩) (xp_V C0.2 hP hD hS [0, 1, 2] rfl (by decide) 5 0 rfl rfl rfl) rfl rfl hl.1 rfl (lv_room (Nat.le_of_ble_eq_true rfl)) dX5_pass_16 ⟨Nat.le_of_ble_eq_true rfl, Nat.le_of_ble_eq_true rfl⟩) (fun H locs hP hD hS => ?_)
      refine lv_istore (lv' := [(4, .int r_2), (0, .ref (g_t 0)), (1, .int x1), (2, .int x2), (3, .int x3)]) hx hb dX5_pass_19 hl (by decide) rfl (fun ls hl => ?_)
      refine lv_iload hx hb dX5_pass_21 (lv_at hl 0 rfl) ?_
      refine lv_iconst (v := 0) hx hb dX5_pass_23 (by decide) ?_
      refine lv_ldc (v := 47999) hx hb hown (hts _ ld_X5_pass_72) dX5_pass_24 ?_
      obtain ⟨r_4, hc_5, hF⟩ := bn_some hF
      refine xc_i (wn := (w_X5_pass K g_t t_gapCount t_targetCount t_lookCount t_time t_gone t_spots t_speeds t_strengths)) hP hD hS C0.2.2.1 [] [0, 1, 2, 3] [0, 1, 2, 3] rfl rfl (by decide) (by decide) rfl (by decide) (va_runSN (host := "StaggerRadar") (As := [.int r_2, .int (0 : Int32), .int (47999 : Int32)]) (rest := []) C0.1 (c_X10_isWithin l D K r_2 (0 : Int32) (47999 : Int32) r_4 hc_5 H.size) ⟨va_cnB 3 hts gX5_pass_X10_isWithin_n73 rfl rfl rfl (C0.2.2.2.1.1 ("StaggerRadar$Radar", 73, ⟨"StaggerRadar", "isWithin", "(III)Z"⟩, "StaggerRadar") (by decide +kernel)) (hts (.initialized RX10) (by decide +kernel)) (by decide +kernel) ⟨Nat.le_of_ble_eq_true rfl, Nat.le_of_ble_eq_true rfl⟩, hts (.static yX10_isWithin) (by decide +kernel), trivial⟩ (xp_S C0.2 hP hD hS [] rfl (by decide)) rfl rfl hl.1 rfl (lv_room (Nat.le_of_ble_eq_true rfl)) dX5_pass_26 ⟨Nat.le_of_ble_eq_true rfl, Nat.le_of_ble_eq_true rfl⟩) (fun H locs hP hD hS => ?_)
      refine lv_if_eq (tgt := 43) hx hb dX5_pass_29 (by decide) (fun c_6 => ?_) (fun c_6 => ?_)
      · have hF := it_pos c_6 hF
        refine lv_aload_n hx hb dX5_pass_43 rfl (lv_at hl 1 rfl) ?_
        refine lv_iload_n hx hb dX5_pass_44 rfl (lv_at hl 4 rfl) ?_
        obtain ⟨r_7, hc_8, hF⟩ := bn_some hF
        refine xc_v (wn := (w_X5_pass K g_t t_gapCount r_7.1 t_lookCount t_time t_gone r_7.2.1 r_7.2.2.1 r_7.2.2.2)) hP hD hS C0.2.2.1 [0, 1, 2, 3] [] [0, 1, 2, 3] rfl rfl (by decide) (by decide) rfl (by decide) (va_runV (As := [.int x3]) (rest := []) C0.1 (c_X5_dropTarget l D K g_t t_gapCount t_targetCount t_lookCount t_time t_gone t_spots t_speeds t_strengths x3 r_7 hc_8 H.size) (cwV 1 hts gX5_pass_X5_dropTarget rfl rfl rfl (by decide +kernel) ⟨Nat.le_of_ble_eq_true rfl, Nat.le_of_ble_eq_true rfl⟩) (xp_V C0.2 hP hD hS [0, 1, 2, 3] rfl (by decide) 5 0 rfl rfl rfl) rfl rfl hl.1 rfl (lv_room (Nat.le_of_ble_eq_true rfl)) dX5_pass_45 ⟨Nat.le_of_ble_eq_true rfl, Nat.le_of_ble_eq_true rfl⟩) (fun H locs hP hD hS => ?_)
        refine lv_iinc (v := (x3 + (-1 : Int32))) (lv' := [(3, .int (x3 + (-1 : Int32))), (4, .int r_2), (0, .ref (g_t 0)), (1, .int x1), (2, .int x2)]) hx hb dX5_pass_48 hl (k := 4) rfl (congrArg (fun z => x3 + z) (by decide)) (by decide) rfl (fun ls hl => ?_)
        refine lv_goto (tgt := 9) hx hb dX5_pass_51 (by decide) ?_
        exact ih r_7.1 t_time t_gone r_7.2.1 r_7.2.2.1 r_7.2.2.2 x1 x2 (x3 + (-1 : Int32)) H locs ls hP hD hS (lv_sub hl [2, 3, 4, 0] rfl) hF
      · have hF := it_neg c_6 hF
        refine lv_aload_n hx hb dX5_pass_32 rfl (lv_at hl 1 rfl) ?_
        refine va_get (D := D) (ci := 5) (v := .ref (g_t 3)) (C := RX5) (T := TX5) (N := 13) hx hb hts iw_X5_pass_X5 hown hK hP 0 rfl rfl 2 (by decide) (hts _ fl_X5_pass_18) (fun _ h9 => h9) rfl dX5_pass_33 ?_
        refine lv_iload_n hx hb dX5_pass_36 rfl (lv_at hl 4 rfl) ?_
        refine lv_iload hx hb dX5_pass_37 (lv_at hl 0 rfl) ?_
        obtain ⟨hg_9, hF⟩ := gd_some hF
        refine xs_i (f := t_spots) hx hb hK hP hD hS 1 0 rfl rfl rfl (in_v hg_9) dX5_pass_39 (fun H locs hP hD hS => ?_)
        have hP : va_P D vwCl (w_X5_pass K g_t t_gapCount t_targetCount t_lookCount t_time t_gone (upd t_spots (x3).toNatClampNeg r_2) t_speeds t_strengths) H := hP
        have hD : va_D A (w_X5_pass K g_t t_gapCount t_targetCount t_lookCount t_time t_gone (upd t_spots (x3).toNatClampNeg r_2) t_speeds t_strengths) := hD
        refine lv_goto (tgt := 48) hx hb dX5_pass_40 (by decide) ?_
        refine lv_iinc (v := (x3 + (-1 : Int32))) (lv' := [(3, .int (x3 + (-1 : Int32))), (4, .int r_2), (0, .ref (g_t 0)), (1, .int x1), (2, .int x2)]) hx hb dX5_pass_48 hl (k := 4) rfl (congrArg (fun z => x3 + z) (by decide)) (by decide) rfl (fun ls hl => ?_)
        refine lv_goto (tgt := 9) hx hb dX5_pass_51 (by decide) ?_
        exact ih t_targetCount t_time t_gone (upd t_spots (x3).toNatClampNeg r_2) t_speeds t_strengths x1 x2 (x3 + (-1 : Int32)) H locs ls hP hD hS (lv_sub hl [2, 3, 4, 0] rfl) hF
def F_X5_pass (t_targetCount : Int32) (t_time : Int32) (t_gone : Int32) (t_spots : Nat → Int32) (t_speeds : Nat → Int32) (t_strengths : Nat → Int32) (x1 : Int32) : Option (Int32 × Int32 × Int32 × Int32 × (Nat → Int32) × (Nat → Int32) × (Nat → Int32)) :=
  L_X5_pass_9 fu_ t_targetCount t_time t_gone t_spots t_speeds t_strengths x1 t_targetCount (t_targetCount - (1 : Int32))
set_option maxHeartbeats 4000000 in
set_option maxRecDepth 100000 in
theorem c_X5_pass (l : Launch) (D : va_G) (K : Nat → ClassId) (g_t : Nat → Nat) (t_gapCount : Int32) (t_targetCount : Int32) (t_lookCount : Int32) (t_time : Int32) (t_gone : Int32) (t_spots : Nat → Int32) (t_speeds : Nat → Int32) (t_strengths : Nat → Int32) (x1 : Int32) (res : Int32 × Int32 × Int32 × Int32 × (Nat → Int32) × (Nat → Int32) × (Nat → Int32)) (hF : F_X5_pass t_targetCount t_time t_gone t_spots t_speeds t_strengths x1 = some res) :
    Mi_ l yX5_pass wsX5_pass rmX5_pass D K [.ref (g_t 0), .int x1] (w_X5_pass K g_t t_gapCount t_targetCount t_lookCount t_time t_gone t_spots t_speeds t_strengths) (w_X5_pass K g_t t_gapCount res.2.1 t_lookCount res.2.2.1 res.2.2.2.1 res.2.2.2.2.1 res.2.2.2.2.2.1 res.2.2.2.2.2.2) (res.1) := by
  refine en_i (cc := cX5_pass) (maxL := 5) (own := RX5) (by decide) rfl rfl (Nat.le_of_ble_eq_true rfl) ?_
  intro p e s m args below meth c A Q H locs ls C0 hP hD hS hl HR
  obtain ⟨⟨hx, hb, hml, hown, hts⟩, hK, -⟩ := id C0
  have hl : lv_has ls 5 [(0, .ref (g_t 0)), (1, .int x1)] := hl
  unfold F_X5_pass at hF
  refine lv_aload_n hx hb dX5_pass_0 rfl (lv_at hl 0 rfl) ?_
  refine va_get (D := D) (ci := 5) (v := .int t_targetCount) (C := RX5) (T := TX5) (N := 13) hx hb hts iw_X5_pass_X5 hown hK hP 0 rfl rfl 9 (by decide) (hts _ fl_X5_pass_49) (fun _ h9 => h9) rfl dX5_pass_1 ?_
  refine lv_istore_n (lv' := [(2, .int t_targetCount), (0, .ref (g_t 0)), (1, .int x1)]) hx hb dX5_pass_4 rfl hl (by decide) rfl (fun ls hl => ?_)
  refine lv_iload_n hx hb dX5_pass_5 rfl (lv_at hl 0 rfl) ?_
  refine lv_iconst (v := 1) hx hb dX5_pass_6 (by decide) ?_
  refine lv_isub hx hb dX5_pass_7 ?_
  refine lv_istore_n (lv' := [(3, .int (t_targetCount - (1 : Int32))), (2, .int t_targetCount), (0, .ref (g_t 0)), (1, .int x1)]) hx hb dX5_pass_8 rfl hl (by decide) rfl (fun ls hl => ?_)
  exact w_X5_pass_9 C0 HR fu_ t_targetCount t_time t_gone t_spots t_speeds t_strengths x1 t_targetCount (t_targetCount - (1 : Int32)) H locs ls hP hD hS (lv_sub hl [2, 3, 1, 0] rfl) hF

/-! StaggerRadar.Dwell.swap(II)V -/
abbrev rmX2_swap : Room := { frames := 0, cells := 0, slots := 0, locals := 0 }
theorem fl_X2_swap_9 : Cond.fieldLink RX2 9 "StaggerRadar$Dwell" "row" "[I" ∈ wsX2_swap := by decide +kernel
theorem iw_X2_swap_X2 : ∀ w ∈ u_ws RX2 TX2 6, w ∈ wsX2_swap := by decide +kernel
abbrev w_X2_swap (K : Nat → ClassId) (g_t : Nat → Nat) (t_rowSize : Int32) (t_pulses : Int32) (t_fewest : Int32) (t_row : Nat → Int32) : va_W := [((g_t 0), .inr (2, [.ref (g_t 1), .int t_rowSize, .ref (g_t 3), .int t_pulses, .ref (g_t 5), .int t_fewest])), ((g_t 1), .inl (K 0, 5, .inl t_row))]
def F_X2_swap (t_row : Nat → Int32) (x1 : Int32) (x2 : Int32) : Option ((Nat → Int32)) :=
  gd_ (in_b x1 5) (gd_ (in_b x2 5) (gd_ (in_b x1 5) (gd_ (in_b x2 5) (some (upd (upd t_row (x1).toNatClampNeg (t_row (x2).toNatClampNeg)) (x2).toNatClampNeg (t_row (x1).toNatClampNeg))))))
set_option maxHeartbeats 4000000 in
set_option maxRecDepth 100000 in
theorem c_X2_swap (l : Launch) (D : va_G) (K : Nat → ClassId) (g_t : Nat → Nat) (t_rowSize : Int32) (t_pulses : Int32) (t_fewest : Int32) (t_row : Nat → Int32) (x1 : Int32) (x2 : Int32) (res : (Nat → Int32)) (hF : F_X2_swap t_row x1 x2 = some res) :
    Mv_ l yX2_swap wsX2_swap rmX2_swap D K [.ref (g_t 0), .int x1, .int x2] (w_X2_swap K g_t t_rowSize t_pulses t_fewest t_row) (w_X2_swap K g_t t_rowSize t_pulses t_fewest res) := by
  refine en_v (cc := cX2_swap) (maxL := 4) (own := RX2) (by decide) rfl rfl (Nat.le_of_ble_eq_true rfl) ?_
  intro p e s m args below meth c A Q H locs ls C0 hP hD hS hl HR
  obtain ⟨⟨hx, hb, hml, hown, hts⟩, hK, -⟩ := id C0
  have hl : lv_has ls 4 [(0, .ref (g_t 0)), (1, .int x1), (2, .int x2)] := hl
  unfold F_X2_swap at hF
  refine lv_aload_n hx hb dX2_swap_0 rfl (lv_at hl 0 rfl) ?_
  refine va_get (D := D) (ci := 2) (v := .ref (g_t 1)) (C := RX2) (T := TX2) (N := 6) hx hb hts iw_X2_swap_X2 hown hK hP 0 rfl rfl 0 (by decide) (hts _ fl_X2_swap_9) (fun _ h9 => h9) rfl dX2_swap_1 ?_
  refine lv_iload_n hx hb dX2_swap_4 rfl (lv_at hl 1 rfl) ?_
  obtain ⟨hg_1, hF⟩ := gd_some hF
  refine xl_i (f := t_row) hx hb hK hP 1 0 rfl rfl rfl (in_v hg_1) dX2_swap_5 ?_
  refine lv_istore_n (lv' := [(3, .int (t_row (x1).toNatClampNeg)), (0, .ref (g_t 0)), (1, .int x1), (2, .int x2)]) hx hb dX2_swap_6 rfl hl (by decide) rfl (fun ls hl => ?_)
  refine lv_aload_n hx hb dX2_swap_7 rfl (lv_at hl 1 rfl) ?_
  refine va_get (D := D) (ci := 2) (v := .ref (g_t 1)) (C := RX2) (T := TX2) (N := 6) hx hb hts iw_X2_swap_X2 hown hK hP 0 rfl rfl 0 (by decide) (hts _ fl_X2_swap_9) (fun _ h9 => h9) rfl dX2_swap_8 ?_
  refine lv_iload_n hx hb dX2_swap_11 rfl (lv_at hl 2 rfl) ?_
  refine lv_aload_n hx hb dX2_swap_12 rfl (lv_at hl 1 rfl) ?_
  refine va_get (D := D) (ci := 2) (v := .ref (g_t 1)) (C := RX2) (T := TX2) (N := 6) hx hb hts iw_X2_swap_X2 hown hK hP 0 rfl rfl 0 (by decide) (hts _ fl_X2_swap_9) (fun _ h9 => h9) rfl dX2_swap_13 ?_
  refine lv_iload_n hx hb dX2_swap_16 rfl (lv_at hl 3 rfl) ?_
  obtain ⟨hg_2, hF⟩ := gd_some hF
  refine xl_i (f := t_row) hx hb hK hP 1 0 rfl rfl rfl (in_v hg_2) dX2_swap_17 ?_
  obtain ⟨hg_3, hF⟩ := gd_some hF
  refine xs_i (f := t_row) hx hb hK hP hD hS 1 0 rfl rfl rfl (in_v hg_3) dX2_swap_18 (fun H locs hP hD hS => ?_)
  have hP : va_P D vwCl (w_X2_swap K g_t t_rowSize t_pulses t_fewest (upd t_row (x1).toNatClampNeg (t_row (x2).toNatClampNeg))) H := hP
  have hD : va_D A (w_X2_swap K g_t t_rowSize t_pulses t_fewest (upd t_row (x1).toNatClampNeg (t_row (x2).toNatClampNeg))) := hD
  refine lv_aload_n hx hb dX2_swap_19 rfl (lv_at hl 1 rfl) ?_
  refine va_get (D := D) (ci := 2) (v := .ref (g_t 1)) (C := RX2) (T := TX2) (N := 6) hx hb hts iw_X2_swap_X2 hown hK hP 0 rfl rfl 0 (by decide) (hts _ fl_X2_swap_9) (fun _ h9 => h9) rfl dX2_swap_20 ?_
  refine lv_iload_n hx hb dX2_swap_23 rfl (lv_at hl 3 rfl) ?_
  refine lv_iload_n hx hb dX2_swap_24 rfl (lv_at hl 0 rfl) ?_
  obtain ⟨hg_4, hF⟩ := gd_some hF
  refine xs_i (f := (upd t_row (x1).toNatClampNeg (t_row (x2).toNatClampNeg))) hx hb hK hP hD hS 1 0 rfl rfl rfl (in_v hg_4) dX2_swap_25 (fun H locs hP hD hS => ?_)
  have hP : va_P D vwCl (w_X2_swap K g_t t_rowSize t_pulses t_fewest (upd (upd t_row (x1).toNatClampNeg (t_row (x2).toNatClampNeg)) (x2).toNatClampNeg (t_row (x1).toNatClampNeg))) H := hP
  have hD : va_D A (w_X2_swap K g_t t_rowSize t_pulses t_fewest (upd (upd t_row (x1).toNatClampNeg (t_row (x2).toNatClampNeg)) (x2).toNatClampNeg (t_row (x1).toNatClampNeg))) := hD
  obtain rfl := Option.some.inj hF
  exact HR 26 H locs ls dX2_swap_26 hP hD hS

/-! StaggerRadar.Dwell.nextRow()Z -/
abbrev rmX2_nextRow : Room := { frames := 1, cells := 0, slots := 0, locals := 23 }
theorem fl_X2_nextRow_9 : Cond.fieldLink RX2 9 "StaggerRadar$Dwell" "row" "[I" ∈ wsX2_nextRow := by decide +kernel
theorem fl_X2_nextRow_27 : Cond.fieldLink RX2 27 "StaggerRadar$Dwell" "rowSize" "I" ∈ wsX2_nextRow := by decide +kernel
theorem iw_X2_nextRow_X2 : ∀ w ∈ u_ws RX2 TX2 6, w ∈ wsX2_nextRow := by decide +kernel
abbrev w_X2_nextRow (K : Nat → ClassId) (g_t : Nat → Nat) (t_rowSize : Int32) (t_pulses : Int32) (t_fewest : Int32) (t_row : Nat → Int32) : va_W := [((g_t 0), .inr (2, [.ref (g_t 1), .int t_rowSize, .ref (g_t 3), .int t_pulses, .ref (g_t 5), .int t_fewest])), ((g_t 1), .inl (K 0, 5, .inl t_row))]
def L_X2_nextRow_93 (t_rowSize : Int32) : Nat → (Nat → Int32) → Int32 → Int32 → Option (Int32 × (Nat → Int32))
  | 0, _, _, _ => none
  | n_ + 1, t_row, x3, x4 =>
    if x4 ≤ x3 then (some ((1 : Int32), t_row)) else ((F_X2_swap t_row x3 x4).bind fun r_2 => (L_X2_nextRow_93 t_rowSize n_ r_2 (x3 + (1 : Int32)) (x4 + (-1 : Int32))))
set_option maxHeartbeats 4000000 in
set_option maxRecDepth 100000 in
theorem w_X2_nextRow_93 {p : Program} {l : Launch} {e : Env} {s : State} {m : MethodId} {args : Array Value} {below : List Frame} {meth : Method} {c : Code} {D : va_G} {K : Nat → ClassId} {A : Nat → Prop} {Q : State → Prop} (C0 : cx_ p s m args c cX2_nextRow 5 RX2 wsX2_nextRow D K A) {g_t : Nat → Nat} {t_rowSize : Int32} {t_pulses : Int32} {t_fewest : Int32} {res : Int32 × (Nat → Int32)} (HR : ∀ (pc : Nat) (H : Heap) (locs : List Loc) (ls : Array Slot), decode cX2_nextRow pc = .ok (.ireturn, 1) → narrow .boolean (.int res.1) = .int res.1 → va_P D vwCl (w_X2_nextRow K g_t t_rowSize t_pulses t_fewest res.2) H → va_D A (w_X2_nextRow K g_t t_rowSize t_pulses t_fewest res.2) → va_S A s.heap H locs → W p l e rmX2_nextRow s m args below meth c H locs 0 0 Q (F0 m pc ls [.int res.1]))  :
    ∀ (n_ : Nat) (t_row : Nat → Int32) (x3 : Int32) (x4 : Int32) (H : Heap) (locs : List Loc) (ls : Array Slot), va_P D vwCl (w_X2_nextRow K g_t t_rowSize t_pulses t_fewest t_row) H → va_D A (w_X2_nextRow K g_t t_rowSize t_pulses t_fewest t_row) → va_S A s.heap H locs → lv_has ls 5 [(0, .ref (g_t 0)), (3, .int x3), (4, .int x4)] → L_X2_nextRow_93 t_rowSize n_ t_row x3 x4 = some res → W p l e rmX2_nextRow s m args below meth c H locs 0 0 Q (F0 m 93 ls []) := by
  obtain ⟨⟨hx, hb, hml, hown, hts⟩, hK, -⟩ := id C0
  intro n_
  induction n_ with
  | zero =>
    intro t_row x3 x4 H locs ls hP hD hS hl hF
    exact no_s (show (none : Option (Int32 × (Nat → Int32))) = some res from hF)
  | succ n_ ih =>
    intro t_row x3 x4 H locs ls hP hD hS hl hF
    rw [L_X2_nextRow_93] at hF
    refine lv_iload_n hx hb dX2_nextRow_93 rfl (lv_at hl 1 rfl) ?_
    refine lv_iload hx hb dX2_nextRow_94 (lv_at hl 2 rfl) ?_
    refine lv_icmp_ge (tgt := 115) hx hb dX2_nextRow_96 (by decide) (fun c_1 => ?_) (fun c_1 => ?_)
    · have hF := it_pos c_1 hF
      refine lv_iconst (v := 1) hx hb dX2_nextRow_115 (by decide) ?_
      obtain rfl := Option.some.inj hF
      exact HR 116 H locs ls dX2_nextRow_116 narrow_b1 hP hD hS
    · have hF := it_neg c_1 hF
      refine lv_aload_n hx hb dX2_nextRow_99 rfl (lv_at hl 0 rfl) ?_
      refine lv_iload_n hx hb dX2_nextRow_100 rfl (lv_at hl 1 rfl) ?_
      refine lv_iload hx hb dX2_nextRow_101 (lv_at hl 2 rfl) ?_
      obtain ⟨r_2, hc_3, hF⟩ := bn_some hF
      refine xc_v (wn := (w_X2_nextRow K g_t t_rowSize t_pulses t_fewest r_2)) hP hD hS C0.2.2.1 [0, 1] [] [0, 1] rfl rfl (by decide) (by decide) rfl (by decide) (va_runV (As := [.int x3, .int x4]) (rest := []) C0.1 (c_X2_swap l D K g_t t_rowSize t_pulses t_fewest t_row x3 x4 r_2 hc_3 H.size) (cwV 2 hts gX2_nextRow_X2_swap rfl rfl rfl (by decide +kernel) ⟨Nat.le_of_ble_eq_true rfl, Nat.le_of_ble_eq_true rfl⟩) (xp_V C0.2 hP hD hS [0, 1] rfl (by decide) 2 0 rfl rfl rfl) rfl rfl hl.1 rfl (lv_room (Nat.le_of_ble_eq_true rfl)) dX2_nextRow_103 ⟨Nat.le_of_ble_eq_true rfl, Nat.le_of_ble_eq_true rfl⟩) (fun H locs hP hD hS => ?_)
      refine lv_iinc (v := (x3 + (1 : Int32))) (lv' := [(3, .int (x3 + (1 : Int32))), (0, .ref (g_t 0)), (4, .int x4)]) hx hb dX2_nextRow_106 hl (k := 1) rfl (congrArg (fun z => x3 + z) (by decide)) (by decide) rfl (fun ls hl => ?_)
      refine lv_iinc (v := (x4 + (-1 : Int32))) (lv' := [(4, .int (x4 + (-1 : Int32))), (3, .int (x3 + (1 : Int32))), (0, .ref (g_t 0))]) hx hb dX2_nextRow_109 hl (k := 2) rfl (congrArg (fun z => x4 + z) (by decide)) (by decide) rfl (fun ls hl => ?_)
      refine lv_goto (tgt := 93) hx hb dX2_nextRow_112 (by decide) ?_
      exact ih r_2 (x3 + (1 : Int32)) (x4 + (-1 : Int32)) H locs ls hP hD hS (lv_sub hl [2, 1, 0] rfl) hF
def J_X2_nextRow_75 (t_rowSize : Int32) (t_row : Nat → Int32) (x1 : Int32) (x2 : Int32) : Option (Int32 × (Nat → Int32)) :=
  (F_X2_swap t_row x1 x2).bind fun r_1 => (L_X2_nextRow_93 t_rowSize fu_ r_1 (x1 + (1 : Int32)) (t_rowSize - (1 : Int32)))
set_option maxHeartbeats 4000000 in
set_option maxRecDepth 100000 in
theorem w_X2_nextRow_75 {p : Program} {l : Launch} {e : Env} {s : State} {m : MethodId} {args : Array Value} {below : List Frame} {meth : Method} {c : Code} {D : va_G} {K : Nat → ClassId} {A : Nat → Prop} {Q : State → Prop} (C0 : cx_ p s m args c cX2_nextRow 5 RX2 wsX2_nextRow D K A) {g_t : Nat → Nat} {t_rowSize : Int32} {t_pulses : Int32} {t_fewest : Int32} {res : Int32 × (Nat → Int32)} (HR : ∀ (pc : Nat) (H : Heap) (locs : List Loc) (ls : Array Slot), decode cX2_nextRow pc = .ok (.ireturn, 1) → narrow .boolean (.int res.1) = .int res.1 → va_P D vwCl (w_X2_nextRow K g_t t_rowSize t_pulses t_fewest res.2) H → va_D A (w_X2_nextRow K g_t t_rowSize t_pulses t_fewest res.2) → va_S A s.heap H locs → W p l e rmX2_nextRow s m args below meth c H locs 0 0 Q (F0 m pc ls [.int res.1]))  :
    ∀ (t_row : Nat → Int32) (x1 : Int32) (x2 : Int32) (H : Heap) (locs : List Loc) (ls : Array Slot), va_P D vwCl (w_X2_nextRow K g_t t_rowSize t_pulses t_fewest t_row) H → va_D A (w_X2_nextRow K g_t t_rowSize t_pulses t_fewest t_row) → va_S A s.heap H locs → lv_has ls 5 [(0, .ref (g_t 0)), (1, .int x1), (2, .int x2)] → J_X2_nextRow_75 t_rowSize t_row x1 x2 = some res → W p l e rmX2_nextRow s m args below meth c H locs 0 0 Q (F0 m 75 ls []) := by
  obtain ⟨⟨hx, hb, hml, hown, hts⟩, hK, -⟩ := id C0
  intro t_row x1 x2 H locs ls hP hD hS hl hF
  unfold J_X2_nextRow_75 at hF
  refine lv_aload_n hx hb dX2_nextRow_75 rfl (lv_at hl 0 rfl) ?_
  refine lv_iload_n hx hb dX2_nextRow_76 rfl (lv_at hl 1 rfl) ?_
  refine lv_iload_n hx hb dX2_nextRow_77 rfl (lv_at hl 2 rfl) ?_
  obtain ⟨r_1, hc_2, hF⟩ := bn_some hF
  refine xc_v (wn := (w_X2_nextRow K g_t t_rowSize t_pulses t_fewest r_1)) hP hD hS C0.2.2.1 [0, 1] [] [0, 1] rfl rfl (by decide) (by decide) rfl (by decide) (va_runV (As := [.int x1, .int x2]) (rest := []) C0.1 (c_X2_swap l D K g_t t_rowSize t_pulses t_fewest t_row x1 x2 r_1 hc_2 H.size) (cwV 2 hts gX2_nextRow_X2_swap rfl rfl rfl (by decide +kernel) ⟨Nat.le_of_ble_eq_true rfl, Nat.le_of_ble_eq_true rfl⟩) (xp_V C0.2 hP hD hS [0, 1] rfl (by decide) 2 0 rfl rfl rfl) rfl rfl hl.1 rfl (lv_room (Nat.le_of_ble_eq_true rfl)) dX2_nextRow_78 ⟨Nat.le_of_ble_eq_true rfl, Nat.le_of_ble_eq_true rfl⟩) (fun H locs hP hD hS => ?_)
  refine lv_iload_n hx hb dX2_nextRow_81 rfl (lv_at hl 1 rfl) ?_
  refine lv_iconst (v := 1) hx hb dX2_nextRow_82 (by decide) ?_
  refine lv_iadd hx hb dX2_nextRow_83 ?_
  refine lv_istore_n (lv' := [(3, .int (x1 + (1 : Int32))), (0, .ref (g_t 0)), (1, .int x1), (2, .int x2)]) hx hb dX2_nextRow_84 rfl hl (by decide) rfl (fun ls hl => ?_)
  refine lv_aload_n hx hb dX2_nextRow_85 rfl (lv_at hl 1 rfl) ?_
  refine va_get (D := D) (ci := 2) (v := .int t_rowSize) (C := RX2) (T := TX2) (N := 6) hx hb hts iw_X2_nextRow_X2 hown hK hP 0 rfl rfl 1 (by decide) (hts _ fl_X2_nextRow_27) (fun _ h9 => h9) rfl dX2_nextRow_86 ?_
  refine lv_iconst (v := 1) hx hb dX2_nextRow_89 (by decide) ?_
  refine lv_isub hx hb dX2_nextRow_90 ?_
  refine lv_istore (lv' := [(4, .int (t_rowSize - (1 : Int32))), (3, .int (x1 + (1 : Int32))), (0, .ref (g_t 0)), (1, .int x1), (2, .int x2)]) hx hb dX2_nextRow_91 hl (by decide) rfl (fun ls hl => ?_)
  exact w_X2_nextRow_93 C0 HR fu_ r_1 (x1 + (1 : Int32)) (t_rowSize - (1 : Int32)) H locs ls hP hD hS (lv_sub hl [2, 1, 0] rfl) hF
def L_X2_nextRow_47 (t_rowSize : Int32) : Nat → (Nat → Int32) → Int32 → Int32 → Option (Int32 × (Nat → Int32))
  | 0, _, _, _ => none
  | n_ + 1, t_row, x1, x2 =>
    if x2 ≤ (x1 + (1 : Int32)) then (J_X2_nextRow_75 t_rowSize t_row x1 x2) else (gd_ (in_b x2 5) (gd_ (in_b x1 5) (if (t_row (x1).toNatClampNeg) ≤ (t_row (x2).toNatClampNeg) then (J_X2_nextRow_75 t_rowSize t_row x1 x2) else (L_X2_nextRow_47 t_rowSize n_ t_row x1 (x2 + (-1 : Int32))))))
set_option maxHeartbeats 4000000 in
set_option maxRecDepth 100000 in
theorem w_X2_nextRow_47 {p : Program} {l : Launch} {e : Env} {s : State} {m : MethodId} {args : Array Value} {below : List Frame} {meth : Method} {c : Code} {D : va_G} {K : Nat → ClassId} {A : Nat → Prop} {Q : State → Prop} (C0 : cx_ p s m args c cX2_nextRow 5 RX2 wsX2_nextRow D K A) {g_t : Nat → Nat} {t_rowSize : Int32} {t_pulses : Int32} {t_fewest : Int32} {res : Int32 × (Nat → Int32)} (HR : ∀ (pc : Nat) (H : Heap) (locs : List Loc) (ls : Array Slot), decode cX2_nextRow pc = .ok (.ireturn, 1) → narrow .boolean (.int res.1) = .int res.1 → va_P D vwCl (w_X2_nextRow K g_t t_rowSize t_pulses t_fewest res.2) H → va_D A (w_X2_nextRow K g_t t_rowSize t_pulses t_fewest res.2) → va_S A s.heap H locs → W p l e rmX2_nextRow s m args below meth c H locs 0 0 Q (F0 m pc ls [.int res.1]))  :
    ∀ (n_ : Nat) (t_row : Nat → Int32) (x1 : Int32) (x2 : Int32) (H : Heap) (locs : List Loc) (ls : Array Slot), va_P D vwCl (w_X2_nextRow K g_t t_rowSize t_pulses t_fewest t_row) H → va_D A (w_X2_nextRow K g_t t_rowSize t_pulses t_fewest t_row) → va_S A s.heap H locs → lv_has ls 5 [(0, .ref (g_t 0)), (1, .int x1), (2, .int x2)] → L_X2_nextRow_47 t_rowSize n_ t_row x1 x2 = some res → W p l e rmX2_nextRow s m args below meth c H locs 0 0 Q (F0 m 47 ls []) := by
  obtain ⟨⟨hx, hb, hml, hown, hts⟩, hK, -⟩ := id C0
  intro n_
  induction n_ with
  | zero =>
    intro t_row x1 x2 H locs ls hP hD hS hl hF
    exact no_s (show (none : Option (Int32 × (Nat → Int32))) = some res from hF)
  | succ n_ ih =>
    intro t_row x1 x2 H locs ls hP hD hS hl hF
    rw [L_X2_nextRow_47] at hF
    refine lv_iload_n hx hb dX2_nextRow_47 rfl (lv_at hl 2 rfl) ?_
    refine lv_iload_n hx hb dX2_nextRow_48 rfl (lv_at hl 1 rfl) ?_
    refine lv_iconst (v := 1) hx hb dX2_nextRow_49 (by decide) ?_
    refine lv_iadd hx hb dX2_nextRow_50 ?_
    refine lv_icmp_le (tgt := 75) hx hb dX2_nextRow_51 (by decide) (fun c_1 => ?_) (fun c_1 => ?_)
    · have hF := it_pos c_1 hF
      exact w_X2_nextRow_75 C0 HR t_row x1 x2 H locs ls hP hD hS (lv_sub hl [0, 1, 2] rfl) hF
    · have hF := it_neg c_1 hF
      refine lv_aload_n hx hb dX2_nextRow_54 rfl (lv_at hl 0 rfl) ?_
      refine va_get (D := D) (ci := 2) (v := .ref (g_t 1)) (C := RX2) (T := TX2) (N := 6) hx hb hts iw_X2_nextRow_X2 hown hK hP 0 rfl rfl 0 (by decide) (hts _ fl_X2_nextRow_9) (fun _ h9 => h9) rfl dX2_nextRow_55 ?_
      refine lv_iload_n hx hb dX2_nextRow_58 rfl (lv_at hl 2 rfl) ?_
      obtain ⟨hg_2, hF⟩ := gd_some hF
      refine xl_i (f := t_row) hx hb hK hP 1 0 rfl rfl rfl (in_v hg_2) dX2_nextRow_59 ?_
      refine lv_aload_n hx hb dX2_nextRow_60 rfl (lv_at hl 0 rfl) ?_
      refine va_get (D := D) (ci := 2) (v := .ref (g_t 1)) (C := RX2) (T := TX2) (N := 6) hx hb hts iw_X2_nextRow_X2 hown hK hP 0 rfl rfl 0 (by decide) (hts _ fl_X2_nextRow_9) (fun _ h9 => h9) rfl dX2_nextRow_61 ?_
      refine lv_iload_n hx hb dX2_nextRow_64 rfl (lv_at hl 1 rfl) ?_
      obtain ⟨hg_3, hF⟩ := gd_some hF
      refine xl_i (f := t_row) hx hb hK hP 1 0 rfl rfl rfl (in_v hg_3) dX2_nextRow_65 ?_
      refine lv_icmp_ge (tgt := 75) hx hb dX2_nextRow_66 (by decide) (fun c_4 => ?_) (fun c_4 => ?_)
      · have hF := it_pos c_4 hF
        exact w_X2_nextRow_75 C0 HR t_row x1 x2 H locs ls hP hD hS (lv_sub hl [0, 1, 2] rfl) hF
      · have hF := it_neg c_4 hF
        refine lv_iinc (v := (x2 + (-1 : Int32))) (lv' := [(2, .int (x2 + (-1 : Int32))), (0, .ref (g_t 0)), (1, .int x1)]) hx hb dX2_nextRow_69 hl (k := 2) rfl (congrArg (fun z => x2 + z) (by decide)) (by decide) rfl (fun ls hl => ?_)
        refine lv_goto (tgt := 47) hx hb dX2_nextRow_72 (by decide) ?_
        exact ih t_row x1 (x2 + (-1 : Int32)) H locs ls hP hD hS (lv_sub hl [1, 2, 0] rfl) hF
def J_X2_nextRow_34 (t_rowSize : Int32) (t_row : Nat → Int32) (x1 : Int32) : Option (Int32 × (Nat → Int32)) :=
  if (0 : Int32) ≤ x1 then (L_X2_nextRow_47 t_rowSize fu_ t_row x1 (t_rowSize - (1 : Int32))) else (some ((0 : Int32), t_row))
set_option maxHeartbeats 4000000 in
set_option maxRecDepth 100000 in
theorem w_X2_nextRow_34 {p : Program} {l : Launch} {e : Env} {s : State} {m : MethodId} {args : Array Value} {below : List Frame} {meth : Method} {c : Code} {D : va_G} {K : Nat → ClassId} {A : Nat → Prop} {Q : State → Prop} (C0 : cx_ p s m args c cX2_nextRow 5 RX2 wsX2_nextRow D K A) {g_t : Nat → Nat} {t_rowSize : Int32} {t_pulses : Int32} {t_fewest : Int32} {res : Int32 × (Nat → Int32)} (HR : ∀ (pc : Nat) (H : Heap) (locs : List Loc) (ls : Array Slot), decode cX2_nextRow pc = .ok (.ireturn, 1) → narrow .boolean (.int res.1) = .int res.1 → va_P D vwCl (w_X2_nextRow K g_t t_rowSize t_pulses t_fewest res.2) H → va_D A (w_X2_nextRow K g_t t_rowSize t_pulses t_fewest res.2) → va_S A s.heap H locs → W p l e rmX2_nextRow s m args below meth c H locs 0 0 Q (F0 m pc ls [.int res.1]))  :
    ∀ (t_row : Nat → Int32) (x1 : Int32) (H : Heap) (locs : List Loc) (ls : Array Slot), va_P D vwCl (w_X2_nextRow K g_t t_rowSize t_pulses t_fewest t_row) H → va_D A (w_X2_nextRow K g_t t_rowSize t_pulses t_fewest t_row) → va_S A s.heap H locs → lv_has ls 5 [(0, .ref (g_t 0)), (1, .int x1)] → J_X2_nextRow_34 t_rowSize t_row x1 = some res → W p l e rmX2_nextRow s m args below meth c H locs 0 0 Q (F0 m 34 ls []) := by
  obtain ⟨⟨hx, hb, hml, hown, hts⟩, hK, -⟩ := id C0
  intro t_row x1 H locs ls hP hD hS hl hF
  unfold J_X2_nextRow_34 at hF
  refine lv_iload_n hx hb dX2_nextRow_34 rfl (lv_at hl 1 rfl) ?_
  refine lv_if_ge (tgt := 40) hx hb dX2_nextRow_35 (by decide) (fun c_1 => ?_) (fun c_1 => ?_)
  · have hF := it_pos c_1 hF
    refine lv_aload_n hx hb dX2_nextRow_40 rfl (lv_at hl 0 rfl) ?_
    refine va_get (D := D) (ci := 2) (v := .int t_rowSize) (C := RX2) (T := TX2) (N := 6) hx hb hts iw_X2_nextRow_X2 hown hK hP 0 rfl rfl 1 (by decide) (hts _ fl_X2_nextRow_27) (fun _ h9 => h9) rfl dX2_nextRow_41 ?_
    refine lv_iconst (v := 1) hx hb dX2_nextRow_44 (by decide) ?_
    refine lv_isub hx hb dX2_nextRow_45 ?_
    refine lv_istore_n (lv' := [(2, .int (t_rowSize - (1 : Int32))), (0, .ref (g_t 0)), (1, .int x1)]) hx hb dX2_nextRow_46 rfl hl (by decide) rfl (fun ls hl => ?_)
    exact w_X2_nextRow_47 C0 HR fu_ t_row x1 (t_rowSize - (1 : Int32)) H locs ls hP hD hS (lv_sub hl [1, 2, 0] rfl) hF
  · have hF := it_neg c_1 hF
    refine lv_iconst (v := 0) hx hb dX2_nextRow_38 (by decide) ?_
    obtain rfl := Option.some.inj hF
    exact HR 39 H locs ls dX2_nextRow_39 narrow_b0 hP hD hS
def L_X2_nextRow_7 (t_rowSize : Int32) : Nat → (Nat → Int32) → Int32 → Option (Int32 × (Nat → Int32))
  | 0, _, _ => none
  | n_ + 1, t_row, x1 =>
    if x1 < (0 : Int32) then (J_X2_nextRow_34 t_rowSize t_row x1) else (gd_ (in_b x1 5) (gd_ (in_b (x1 + (1 : Int32)) 5) (if (t_row (x1).toNatClampNeg) ≤ (t_row (x1 + (1 : Int32)).toNatClampNeg) then (J_X2_nextRow_34 t_rowSize t_row x1) else (L_X2_nextRow_7 t_rowSize n_ t_row (x1 + (-1 : Int32))))))
set_option maxHeartbeats 4000000 in
set_option maxRecDepth 100000 in
theorem w_X2_nextRow_7 {p : Program} {l : Launch} {e : Env} {s : State} {m : MethodId} {args : Array Value} {below : List Frame} {meth : Method} {c : Code} {D : va_G} {K : Nat → ClassId} {A : Nat → Prop} {Q : State → Prop} (C0 : cx_ p s m args c cX2_nextRow 5 RX2 wsX2_nextRow D K A) {g_t : Nat → Nat} {t_rowSize : Int32} {t_pulses : Int32} {t_fewest : Int32} {res : Int32 × (Nat → Int32)} (HR : ∀ (pc : Nat) (H : Heap) (locs : List Loc) (ls : Array Slot), decode cX2_nextRow pc = .ok (.ireturn, 1) → narrow .boolean (.int res.1) = .int res.1 → va_P D vwCl (w_X2_nextRow K g_t t_rowSize t_pulses t_fewest res.2) H → va_D A (w_X2_nextRow K g_t t_rowSize t_pulses t_fewest res.2) → va_S A s.heap H locs → W p l e rmX2_nextRow s m args below meth c H locs 0 0 Q (F0 m pc ls [.int res.1]))  :
    ∀ (n_ : Nat) (t_row : Nat → Int32) (x1 : Int32) (H : Heap) (locs : List Loc) (ls : Array Slot), va_P D vwCl (w_X2_nextRow K g_t t_rowSize t_pulses t_fewest t_row) H → va_D A (w_X2_nextRow K g_t t_rowSize t_pulses t_fewest t_row) → va_S A s.heap H locs → lv_has ls 5 [(0, .ref (g_t 0)), (1, .int x1)] → L_X2_nextRow_7 t_rowSize n_ t_row x1 = some res → W p l e rmX2_nextRow s m args below meth c H locs 0 0 Q (F0 m 7 ls []) := by
  obtain ⟨⟨hx, hb, hml, hown, hts⟩, hK, -⟩ := id C0
  intro n_
  induction n_ with
  | zero =>
    intro t_row x1 H locs ls hP hD hS hl hF
    exact no_s (show (none : Option (Int32 × (Nat → Int32))) = some res from hF)
  | succ n_ ih =>
    intro t_row x1 H locs ls hP hD hS hl hF
    rw [L_X2_nextRow_7] at hF
    refine lv_iload_n hx hb dX2_nextRow_7 rfl (lv_at hl 1 rfl) ?_
    refine lv_if_lt (tgt := 34) hx hb dX2_nextRow_8 (by decide) (fun c_1 => ?_) (fun c_1 => ?_)
    · have hF := it_pos c_1 hF
      exact w_X2_nextRow_34 C0 HR t_row x1 H locs ls hP hD hS (lv_sub hl [0, 1] rfl) hF
    · have hF := it_neg c_1 hF
      refine lv_aload_n hx hb dX2_nextRow_11 rfl (lv_at hl 0 rfl) ?_
      refine va_get (D := D) (ci := 2) (v := .ref (g_t 1)) (C := RX2) (T := TX2) (N := 6) hx hb hts iw_X2_nextRow_X2 hown hK hP 0 rfl rfl 0 (by decide) (hts _ fl_X2_nextRow_9) (fun _ h9 => h9) rfl dX2_nextRow_12 ?_
      refine lv_iload_n hx hb dX2_nextRow_15 rfl (lv_at hl 1 rfl) ?_
      obtain ⟨hg_2, hF⟩ := gd_some hF
      refine xl_i (f := t_row) hx hb hK hP 1 0 rfl rfl rfl (in_v hg_2) dX2_nextRow_16 ?_
      refine lv_aload_n hx hb dX2_nextRow_17 rfl (lv_at hl 0 rfl) ?_
      refine va_get (D := D) (ci := 2) (v := .ref (g_t 1)) (C := RX2) (T := TX2) (N := 6) hx hb hts iw_X2_nextRow_X2 hown hK hP 0 rfl rfl 0 (by decide) (hts _ fl_X2_nextRow_9) (fun _ h9 => h9) rfl dX2_nextRow_18 ?_
      refine lv_iload_n hx hb dX2_nextRow_21 rfl (lv_at hl 1 rfl) ?_
      refine lv_iconst (v := 1) hx hb dX2_nextRow_22 (by decide) ?_
      refine lv_iadd hx hb dX2_nextRow_23 ?_
      obtain ⟨hg_3, hF⟩ := gd_some hF
      refine xl_i (f := t_row) hx hb hK hP 1 0 rfl rfl rfl (in_v hg_3) dX2_nextRow_24 ?_
      refine lv_icmp_le (tgt := 34) hx hb dX2_nextRow_25 (by decide) (fun c_4 => ?_) (fun c_4 => ?_)
      · have hF := it_pos c_4 hF
        exact w_X2_nextRow_34 C0 HR t_row x1 H locs ls hP hD hS (lv_sub hl [0, 1] rfl) hF
      · have hF := it_neg c_4 hF
        refine lv_iinc (v := (x1 + (-1 : Int32))) (lv' := [(1, .int (x1 + (-1 : Int32))), (0, .ref (g_t 0))]) hx hb dX2_nextRow_28 hl (k := 1) rfl (congrArg (fun z => x1 + z) (by decide)) (by decide) rfl (fun ls hl => ?_)
        refine lv_goto (tgt := 7) hx hb dX2_nextRow_31 (by decide) ?_
        exact ih t_row (x1 + (-1 : Int32)) H locs ls hP hD hS (lv_sub hl [1, 0] rfl) hF
def F_X2_nextRow (t_rowSize : Int32) (t_row : Nat → Int32) : Option (Int32 × (Nat → Int32)) :=
  L_X2_nextRow_7 t_rowSize fu_ t_row (t_rowSize - (2 : Int32))
set_option maxHeartbeats 4000000 in
set_option maxRecDepth 100000 in
theorem c_X2_nextRow (l : Launch) (D : va_G) (K : Nat → ClassId) (g_t : Nat → Nat) (t_rowSize : Int32) (t_pulses : Int32) (t_fewest : Int32) (t_row : Nat → Int32) (res : Int32 × (Nat → Int32)) (hF : F_X2_nextRow t_rowSize t_row = some res) :
    Mi_ l yX2_nextRow wsX2_nextRow rmX2_nextRow D K [.ref (g_t 0)] (w_X2_nextRow K g_t t_rowSize t_pulses t_fewest t_row) (w_X2_nextRow K g_t t_rowSize t_pulses t_fewest res.2) (res.1) := by
  refine en_z (cc := cX2_nextRow) (maxL := 5) (own := RX2) (by decide) rfl rfl (Nat.le_of_ble_eq_true rfl) ?_
  intro p e s m args below meth c A Q H locs ls C0 hP hD hS hl HR
  obtain ⟨⟨hx, hb, hml, hown, hts⟩, hK, -⟩ := id C0
  have hl : lv_has ls 5 [(0, .ref (g_t 0))] := hl
  unfold F_X2_nextRow at hF
  refine lv_aload_n hx hb dX2_nextRow_0 rfl (lv_at hl 0 rfl) ?_
  refine va_get (D := D) (ci := 2) (v := .int t_rowSize) (C := RX2) (T := TX2) (N := 6) hx hb hts iw_X2_nextRow_X2 hown hK hP 0 rfl rfl 1 (by decide) (hts _ fl_X2_nextRow_27) (fun _ h9 => h9) rfl dX2_nextRow_1 ?_
  refine lv_iconst (v := 2) hx hb dX2_nextRow_4 (by decide) ?_
  refine lv_isub hx hb dX2_nextRow_5 ?_
  refine lv_istore_n (lv' := [(1, .int (t_rowSize - (2 : Int32))), (0, .ref (g_t 0))]) hx hb dX2_nextRow_6 rfl hl (by decide) rfl (fun ls hl => ?_)
  exact w_X2_nextRow_7 C0 HR fu_ t_row (t_rowSize - (2 : Int32)) H locs ls hP hD hS (lv_sub hl [1, 0] rfl) hF
