/-! StaggerRadar.Dwell.arrange(LStaggerRadar$Radar;I)V -/
abbrev rmX2_arrange : Room := { frames := 3, cells := 0, slots := 0, locals := 81 }
theorem fl_X2_arrange_9 : Cond.fieldLink RX2 9 "StaggerRadar$Dwell" "row" "[I" ∈ wsX2_arrange := by decide +kernel
theorem fl_X2_arrange_18 : Cond.fieldLink RX2 18 "StaggerRadar$Dwell" "best" "[I" ∈ wsX2_arrange := by decide +kernel
theorem fl_X2_arrange_72 : Cond.fieldLink RX2 72 "StaggerRadar$Dwell" "fewest" "I" ∈ wsX2_arrange := by decide +kernel
theorem ld_X2_arrange_71 : Cond.constant RX2 71 (2147483647) ∈ wsX2_arrange := by decide +kernel
theorem iw_X2_arrange_X2 : ∀ w ∈ u_ws RX2 TX2 6, w ∈ wsX2_arrange := by decide +kernel
theorem iw_X2_arrange_X5 : ∀ w ∈ u_ws RX5 TX5 13, w ∈ wsX2_arrange := by decide +kernel
abbrev w_X2_arrange (K : Nat → ClassId) (g_t : Nat → Nat) (g_p1 : Nat → Nat) (t_rowSize : Int32) (t_pulses : Int32) (t_fewest : Int32) (t_row : Nat → Int32) (t_sent : Nat → Int32) (t_best : Nat → Int32) (p1_gapCount : Int32) (p1_targetCount : Int32) (p1_lookCount : Int32) (p1_time : Int32) (p1_gone : Int32) (p1_gaps : Nat → Int32) (p1_settings : Nat → Int32) (p1_spots : Nat → Int32) : va_W := [((g_t 0), .inr (2, [.ref (g_t 1), .int t_rowSize, .ref (g_t 3), .int t_pulses, .ref (g_t 5), .int t_fewest])), ((g_t 1), .inl (K 0, 5, .inl t_row)), ((g_t 3), .inl (K 0, 65, .inl t_sent)), ((g_t 5), .inl (K 0, 5, .inl t_best)), ((g_p1 0), .inr (5, [.ref (g_p1 1), .ref (g_p1 2), .ref (g_p1 3), .ref (g_p1 4), .ref (g_p1 5), .ref (g_p1 6), .ref (g_p1 7), .ref (g_p1 8), .int p1_gapCount, .int p1_targetCount, .int p1_lookCount, .int p1_time, .int p1_gone])), ((g_p1 1), .inl (K 0, 5, .inl p1_gaps)), ((g_p1 2), .inl (K 0, 7, .inl p1_settings)), ((g_p1 3), .inl (K 0, 8, .inl p1_spots))]
def J_X2_arrange_81 (p1_gapCount : Int32) (p1_targetCount : Int32) (p1_gaps : Nat → Int32) (p1_settings : Nat → Int32) (p1_spots : Nat → Int32) (k_16 : Int32 → Int32 → Int32 → (Nat → Int32) → (Nat → Int32) → (Nat → Int32) → Int32 → Int32 → Int32 → Option (Int32 × Int32 × Int32 × (Nat → Int32) × (Nat → Int32) × (Nat → Int32))) (t_rowSize : Int32) (t_pulses : Int32) (t_fewest : Int32) (t_row : Nat → Int32) (t_sent : Nat → Int32) (t_best : Nat → Int32) (x2 : Int32) (x4 : Int32) : Option (Int32 × Int32 × Int32 × (Nat → Int32) × (Nat → Int32) × (Nat → Int32)) :=
  (F_X2_nextRow t_rowSize t_row).bind fun r_1 => (k_16 t_rowSize t_pulses t_fewest r_1.2 t_sent t_best x2 r_1.1 (x4 + (1 : Int32)))
set_option maxHeartbeats 4000000 in
set_option maxRecDepth 100000 in
theorem w_X2_arrange_81 {p : Program} {l : Launch} {e : Env} {s : State} {m : MethodId} {args : Array Value} {below : List Frame} {meth : Method} {c : Code} {D : va_G} {K : Nat → ClassId} {A : Nat → Prop} {Q : State → Prop} (C0 : cx_ p s m args c cX2_arrange 6 RX2 wsX2_arrange D K A) {g_t : Nat → Nat} {g_p1 : Nat → Nat} {p1_gapCount : Int32} {p1_targetCount : Int32} {p1_lookCount : Int32} {p1_time : Int32} {p1_gone : Int32} {p1_gaps : Nat → Int32} {p1_settings : Nat → Int32} {p1_spots : Nat → Int32} {res : Int32 × Int32 × Int32 × (Nat → Int32) × (Nat → Int32) × (Nat → Int32)} (HR : ∀ (pc : Nat) (H : Heap) (locs : List Loc) (ls : Array Slot), decode cX2_arrange pc = .ok (.return_, 1) → va_P D vwCl (w_X2_arrange K g_t g_p1 res.1 res.2.1 res.2.2.1 res.2.2.2.1 res.2.2.2.2.1 res.2.2.2.2.2 p1_gapCount p1_targetCount p1_lookCount p1_time p1_gone p1_gaps p1_settings p1_spots) H → va_D A (w_X2_arrange K g_t g_p1 res.1 res.2.1 res.2.2.1 res.2.2.2.1 res.2.2.2.2.1 res.2.2.2.2.2 p1_gapCount p1_targetCount p1_lookCount p1_time p1_gone p1_gaps p1_settings p1_spots) → va_S A s.heap H locs → W p l e rmX2_arrange s m args below meth c H locs 0 0 Q (F0 m pc ls [])) {k_16 : Int32 → Int32 → Int32 → (Nat → Int32) → (Nat → Int32) → (Nat → Int32) → Int32 → Int32 → Int32 → Option (Int32 × Int32 × Int32 × (Nat → Int32) × (Nat → Int32) × (Nat → Int32))} (HK_16 : ∀ (t_rowSize : Int32) (t_pulses : Int32) (t_fewest : Int32) (t_row : Nat → Int32) (t_sent : Nat → Int32) (t_best : Nat → Int32) (x2 : Int32) (x3 : Int32) (x4 : Int32) (H : Heap) (locs : List Loc) (ls : Array Slot), va_P D vwCl (w_X2_arrange K g_t g_p1 t_rowSize t_pulses t_fewest t_row t_sent t_best p1_gapCount p1_targetCount p1_lookCount p1_time p1_gone p1_gaps p1_settings p1_spots) H → va_D A (w_X2_arrange K g_t g_p1 t_rowSize t_pulses t_fewest t_row t_sent t_best p1_gapCount p1_targetCount p1_lookCount p1_time p1_gone p1_gaps p1_settings p1_spots) → va_S A s.heap H locs → lv_has ls 6 [(0, .ref (g_t 0)), (1, .ref (g_p1 0)), (2, .int x2), (3, .int x3), (4, .int x4)] → k_16 t_rowSize t_pulses t_fewest t_row t_sent t_best x2 x3 x4 = some res → W p l e rmX2_arrange s m args below meth c H locs 0 0 Q (F0 m 16 ls [])) :
    ∀ (t_rowSize : Int32) (t_pulses : Int32) (t_fewest : Int32) (t_row : Nat → Int32) (t_sent : Nat → Int32) (t_best : Nat → Int32) (x2 : Int32) (x4 : Int32) (H : Heap) (locs : List Loc) (ls : Array Slot), va_P D vwCl (w_X2_arrange K g_t g_p1 t_rowSize t_pulses t_fewest t_row t_sent t_best p1_gapCount p1_targetCount p1_lookCount p1_time p1_gone p1_gaps p1_settings p1_spots) H → va_D A (w_X2_arrange K g_t g_p1 t_rowSize t_pulses t_fewest t_row t_sent t_best p1_gapCount p1_targetCount p1_lookCount p1_time p1_gone p1_gaps p1_settings p1_spots) → va_S A s.heap H locs → lv_has ls 6 [(0, .ref (g_t 0)), (1, .ref (g_p1 0)), (2, .int x2), (4, .int x4)] → J_X2_arrange_81 p1_gapCount p1_targetCount p1_gaps p1_settings p1_spots k_16 t_rowSize t_pulses t_fewest t_row t_sent t_best x2 x4 = some res → W p l e rmX2_arrange s m args below meth c H locs 0 0 Q (F0 m 81 ls []) := by
  obtain ⟨⟨hx, hb, hml, hown, hts⟩, hK, -⟩ := id C0
  intro t_rowSize t_pulses t_fewest t_row t_sent t_best x2 x4 H locs ls hP hD hS hl hF
  unfold J_X2_arrange_81 at hF
  refine lv_aload_n hx hb dX2_arrange_81 rfl (lv_at hl 0 rfl) ?_
  obtain ⟨r_1, hc_2, hF⟩ := bn_some hF
  refine xc_i (wn := (w_X2_arrange K g_t g_p1 t_rowSize t_pulses t_fewest r_1.2 t_sent t_best p1_gapCount p1_targetCount p1_lookCount p1_time p1_gone p1_gaps p1_settings p1_spots)) hP hD hS C0.2.2.1 [0, 1] [2, 3, 4, 5, 6, 7] [6, 7, 0, 1, 2, 3, 4, 5] rfl rfl (by decide) (by decide) rfl (by decide) (va_runV (As := []) (rest := []) C0.1 (c_X2_nextRow l D K g_t t_rowSize t_pulses t_fewest t_row r_1 hc_2 H.size) (cwV 0 hts gX2_arrange_X2_nextRow rfl rfl rfl (by decide +kernel) ⟨Nat.le_of_ble_eq_true rfl, Nat.le_of_ble_eq_true rfl⟩) (xp_V C0.2 hP hD hS [0, 1] rfl (by decide) 2 0 rfl rfl rfl) rfl rfl hl.1 rfl (lv_room (Nat.le_of_ble_eq_true rfl)) dX2_arrange_82 ⟨Nat.le_of_ble_eq_true rfl, Nat.le_of_ble_eq_true rfl⟩) (fun H locs hP hD hS => ?_)
  refine lv_istore_n (lv' := [(3, .int r_1.1), (0, .ref (g_t 0)), (1, .ref (g_p1 0)), (2, .int x2), (4, .int x4)]) hx hb dX2_arrange_85 rfl hl (by decide) rfl (fun ls hl => ?_)
  refine lv_iinc (v := (x4 + (1 : Int32))) (lv' := [(4, .int (x4 + (1 : Int32))), (3, .int r_1.1), (0, .ref (g_t 0)), (1, .ref (g_p1 0)), (2, .int x2)]) hx hb dX2_arrange_86 hl (k := 4) rfl (congrArg (fun z => x4 + z) (by decide)) (by decide) rfl (fun ls hl => ?_)
  refine lv_goto (tgt := 16) hx hb dX2_arrange_89 (by decide) ?_
  exact HK_16 t_rowSize t_pulses t_fewest r_1.2 t_sent t_best x2 r_1.1 (x4 + (1 : Int32)) H locs ls hP hD hS (lv_sub hl [2, 3, 4, 1, 0] rfl) hF
def L_X2_arrange_16 (p1_gapCount : Int32) (p1_targetCount : Int32) (p1_gaps : Nat → Int32) (p1_settings : Nat → Int32) (p1_spots : Nat → Int32) : Nat → Int32 → Int32 → Int32 → (Nat → Int32) → (Nat → Int32) → (Nat → Int32) → Int32 → Int32 → Int32 → Option (Int32 × Int32 × Int32 × (Nat → Int32) × (Nat → Int32) × (Nat → Int32))
  | 0, _, _, _, _, _, _, _, _, _ => none
  | n_ + 1, t_rowSize, t_pulses, t_fewest, t_row, t_sent, t_best, x2, x3, x4 =>
    if (120 : Int32) ≤ x4 then (some (t_rowSize, t_pulses, t_fewest, t_row, t_sent, t_best)) else (if x3 = (0 : Int32) then (some (t_rowSize, t_pulses, t_fewest, t_row, t_sent, t_best)) else (if t_fewest ≤ (0 : Int32) then (some (t_rowSize, t_pulses, t_fewest, t_row, t_sent, t_best)) else ((F_X2_send t_rowSize t_pulses t_row t_sent x2 (0 : Int32) (0 : Int32)).bind fun r_4 => ((F_X2_countHidden r_4.1 r_4.2 p1_targetCount p1_settings p1_spots t_fewest).bind fun r_6 => (if t_fewest ≤ r_6 then (J_X2_arrange_81 p1_gapCount p1_targetCount p1_gaps p1_settings p1_spots (L_X2_arrange_16 p1_gapCount p1_targetCount p1_gaps p1_settings p1_spots n_) t_rowSize r_4.1 t_fewest t_row r_4.2 t_best x2 x4) else (J_X2_arrange_81 p1_gapCount p1_targetCount p1_gaps p1_settings p1_spots (L_X2_arrange_16 p1_gapCount p1_targetCount p1_gaps p1_settings p1_spots n_) t_rowSize r_4.1 r_6 t_row r_4.2 (va_cpy t_row t_best 0 0 5) x2 x4))))))
set_option maxHeartbeats 4000000 in
set_option maxRecDepth 100000 in
theorem w_X2_arrange_16 {p : Program} {l : Launch} {e : Env} {s : State} {m : MethodId} {args : Array Value} {below : List Frame} {meth : Method} {c : Code} {D : va_G} {K : Nat → ClassId} {A : Nat → Prop} {Q : State → Prop} (C0 : cx_ p s m args c cX2_arrange 6 RX2 wsX2_arrange D K A) {g_t : Nat → Nat} {g_p1 : Nat → Nat} {p1_gapCount : Int32} {p1_targetCount : Int32} {p1_lookCount : Int32} {p1_time : Int32} {p1_gone : Int32} {p1_gaps : Nat → Int32} {p1_settings : Nat → Int32} {p1_spots : Nat → Int32} {res : Int32 × Int32 × Int32 × (Nat → Int32) × (Nat → Int32) × (Nat → Int32)} (HR : ∀ (pc : Nat) (H : Heap) (locs : List Loc) (ls : Array Slot), decode cX2_arrange pc = .ok (.return_, 1) → va_P D vwCl (w_X2_arrange K g_t g_p1 res.1 res.2.1 res.2.2.1 res.2.2.2.1 res.2.2.2.2.1 res.2.2.2.2.2 p1_gapCount p1_targetCount p1_lookCount p1_time p1_gone p1_gaps p1_settings p1_spots) H → va_D A (w_X2_arrange K g_t g_p1 res.1 res.2.1 res.2.2.1 res.2.2.2.1 res.2.2.2.2.1 res.2.2.2.2.2 p1_gapCount p1_targetCount p1_lookCount p1_time p1_gone p1_gaps p1_settings p1_spots) → va_S A s.heap H locs → W p l e rmX2_arrange s m args below meth c H locs 0 0 Q (F0 m pc ls []))  :
    ∀ (n_ : Nat) (t_rowSize : Int32) (t_pulses : Int32) (t_fewest : Int32) (t_row : Nat → Int32) (t_sent : Nat → Int32) (t_best : Nat → Int32) (x2 : Int32) (x3 : Int32) (x4 : Int32) (H : Heap) (locs : List Loc) (ls : Array Slot), va_P D vwCl (w_X2_arrange K g_t g_p1 t_rowSize t_pulses t_fewest t_row t_sent t_best p1_gapCount p1_targetCount p1_lookCount p1_time p1_gone p1_gaps p1_settings p1_spots) H → va_D A (w_X2_arrange K g_t g_p1 t_rowSize t_pulses t_fewest t_row t_sent t_best p1_gapCount p1_targetCount p1_lookCount p1_time p1_gone p1_gaps p1_settings p1_spots) → va_S A s.heap H locs → lv_has ls 6 [(0, .ref (g_t 0)), (1, .ref (g_p1 0)), (2, .int x2), (3, .int x3), (4, .int x4)] → L_X2_arrange_16 p1_gapCount p1_targetCount p1_gaps p1_settings p1_spots n_ t_rowSize t_pulses t_fewest t_row t_sent t_best x2 x3 x4 = some res → W p l e rmX2_arrange s m args below meth c H locs 0 0 Q (F0 m 16 ls []) := by
  obtain ⟨⟨hx, hb, hml, hown, hts⟩, hK, -⟩ := id C0
  intro n_
  induction n_ with
  | zero =>
    intro t_rowSize t_pulses t_fewest t_row t_sent t_best x2 x3 x4 H locs ls hP hD hS hl hF
    exact no_s (show (none : Option (Int32 × Int32 × Int32 × (Nat → Int32) × (Nat → Int32) × (Nat → Int32))) = some res from hF)
  | succ n_ ih =>
    intro t_rowSize t_pulses t_fewest t_row t_sent t_best x2 x3 x4 H locs ls hP hD hS hl hF
    rw [L_X2_arrange_16] at hF
    refine lv_iload hx hb dX2_arrange_16 (lv_at hl 4 rfl) ?_
    refine lv_bipush (v := 120) hx hb dX2_arrange_18 (by decide) ?_
    refine lv_icmp_ge (tgt := 92) hx hb dX2_arrange_20 (by decide) (fun c_1 => ?_) (fun c_1 => ?_)
    · have hF := it_pos c_1 hF
      obtain rfl := Option.some.inj hF
      exact HR 92 H locs ls dX2_arrange_92 hP hD hS
    · have hF := it_neg c_1 hF
      refine lv_iload_n hx hb dX2_arrange_23 rfl (lv_at hl 3 rfl) ?_
      refine lv_if_eq (tgt := 92) hx hb dX2_arrange_24 (by decide) (fun c_2 => ?_) (fun c_2 => ?_)
      · have hF := it_pos c_2 hF
        obtain rfl := Option.some.inj hF
        exact HR 92 H locs ls dX2_arrange_92 hP hD hS
      · have hF := it_neg c_2 hF
        refine lv_aload_n hx hb dX2_arrange_27 rfl (lv_at hl 0 rfl) ?_
        refine va_get (D := D) (ci := 2) (v := .int t_fewest) (C := RX2) (T := TX2) (N := 6) hx hb hts iw_X2_arrange_X2 hown hK hP 0 rfl rfl 5 (by decide) (hts _ fl_X2_arrange_72) (fun _ h9 => h9) rfl dX2_arrange_28 ?_
        refine lv_if_le (tgt := 92) hx hb dX2_arrange_31 (by decide) (fun c_3 => ?_) (fun c_3 => ?_)
        · have hF := it_pos c_3 hF
          obtain rfl := Option.some.inj hF
          exact HR 92 H locs ls dX2_arrange_92 hP hD hS
        · have hF := it_neg c_3 hF
          refine lv_aload_n hx hb dX2_arrange_34 rfl (lv_at hl 0 rfl) ?_
          refine lv_iload_n hx hb dX2_arrange_35 rfl (lv_at hl 2 rfl) ?_
          refine lv_iconst (v := 0) hx hb dX2_arrange_36 (by decide) ?_
          refine lv_iconst (v := 0) hx hb dX2_arrange_37 (by decide) ?_
          obtain ⟨r_4, hc_5, hF⟩ := bn_some hF
          refine xc_v (wn := (w_X2_arrange K g_t g_p1 t_rowSize r_4.1 t_fewest t_row r_4.2 t_best p1_gapCount p1_targetCount p1_lookCount p1_time p1_gone p1_gaps p1_settings p1_spots)) hP hD hS C0.2.2.1 [0, 1, 2] [3, 4, 5, 6, 7] [5, 6, 7, 0, 1, 2, 3, 4] rfl rfl (by decide) (by decide) rfl (by decide) (va_runV (As := [.int x2, .int (0 : Int32), .int (0 : Int32)]) (rest := []) C0.1 (c_X2_send l D K g_t t_rowSize t_pulses t_fewest t_row t_sent x2 (0 : Int32) (0 : Int32) r_4 hc_5 H.size) (cwV 3 hts gX2_arrange_X2_send rfl rfl rfl (by decide +kernel) ⟨Nat.le_of_ble_eq_true rfl, Nat.le_of_ble_eq_true rfl⟩) (xp_V C0.2 hP hD hS [0, 1, 2] rfl (by decide) 2 0 rfl rfl rfl) rfl rfl hl.1 rfl (lv_room (Nat.le_of_ble_eq_true rfl)) dX2_arrange_38 ⟨Nat.le_of_ble_eq_true rfl, Nat.le_of_ble_eq_true rfl⟩) (fun H locs hP hD hS => ?_)
          refine lv_aload_n hx hb dX2_arrange_41 rfl (lv_at hl 0 rfl) ?_
          refine lv_aload_n hx hb dX2_arrange_42 rfl (lv_at hl 1 rfl) ?_
          refine lv_aload_n hx hb dX2_arrange_43 rfl (lv_at hl 0 rfl) ?_
          refine va_get (D := D) (ci := 2) (v := .int t_fewest) (C := RX2) (T := TX2) (N := 6) hx hb hts iw_X2_arrange_X2 hown hK hP 0 rfl rfl 5 (by decide) (hts _ fl_X2_arrange_72) (fun _ h9 => h9) rfl dX2_arrange_44 ?_
          obtain ⟨r_6, hc_7, hF⟩ := bn_some hF
          refine xc_i (wn := (w_X2_arrange K g_t g_p1 t_rowSize r_4.1 t_fewest t_row r_4.2 t_best p1_gapCount p1_targetCount p1_lookCount p1_time p1_gone p1_gaps p1_settings p1_spots)) hP hD hS C0.2.2.1 [0, 2, 4, 6, 7] [1, 3, 5] [3, 0, 4, 1, 5, 2, 6, 7] rfl rfl (by decide) (by decide) rfl (by decide) (va_runV (As := [.ref (g_p1 0), .int t_fewest]) (rest := []) C0.1 (c_X2_countHidden l D K g_t g_p1 t_rowSize r_4.1 t_fewest r_4.2 p1_gapCount p1_targetCount p1_lookCount p1_time p1_gone p1_settings p1_spots t_fewest r_6 hc_7 H.size) (cwV 2 hts gX2_arrange_X2_countHidden rfl rfl rfl (by decide +kernel) ⟨Nat.le_of_ble_eq_true rfl, Nat.le_of_ble_eq_true rfl⟩) (xp_V C0.2 hP hD hS [0, 2, 4, 6, 7] rfl (by decide) 2 0 rfl rfl rfl) rfl rfl hl.1 rfl (lv_room (Nat.le_of_ble_eq_true rfl)) dX2_arrange_47 ⟨Nat.le_of_ble_eq_true rfl, Nat.le_of_ble_eq_true rfl⟩) (fun H locs hP hD hS => ?_)
          refine lv_istore (lv' := [(5, .int r_6), (0, .ref (g_t 0)), (1, .ref (g_p1 0)), (2, .int x2), (3, .int x3), (4, .int x4)]) hx hb dX2_arrange_50 hl (by decide) rfl (fun ls hl => ?_)
          refine lv_iload hx hb dX2_arrange_52 (lv_at hl 0 rfl) ?_
          refine lv_aload_n hx hb dX2_arrange_54 rfl (lv_at hl 1 rfl) ?_
          refine va_get (D := D) (ci := 2) (v := .int t_fewest) (C := RX2) (T := TX2) (N := 6) hx hb hts iw_X2_arrange_X2 hown hK hP 0 rfl rfl 5 (by decide) (hts _ fl_X2_arrange_72) (fun _ h9 => h9) rfl dX2_arrange_55 ?_
          refine lv_icmp_ge (tgt := 81) hx hb dX2_arrange_58 (by decide) (fun c_8 => ?_) (fun c_8 => ?_)
          · have hF := it_pos c_8 hF
            exact w_X2_arrange_81 C0 HR ih t_rowSize r_4.1 t_fewest t_row r_4.2 t_best x2 x4 H locs ls hP hD hS (lv_sub hl [1, 2, 3, 5] rfl) hF
          · have hF := it_neg c_8 hF
            refine lv_aload_n hx hb dX2_arrange_61 rfl (lv_at hl 1 rfl) ?_
            refine lv_iload hx hb dX2_arrange_62 (lv_at hl 0 rfl) ?_
            refine va_put (D := D) (ci := 2) (v := .int r_6) (ty := .int) (C := RX2) (T := TX2) (N := 6) hx hb hts iw_X2_arrange_X2 tyX2 tyX2_ok nmX2 hown hK hP hD hS 0 rfl rfl 5 (by decide) (hts _ fl_X2_arrange_72) (fun _ h9 => h9) rfl (by decide +kernel) rfl rfl (Nat.le_of_ble_eq_true rfl) dX2_arrange_64 (fun H locs hP hD hS => ?_)
            have hP : va_P D vwCl (w_X2_arrange K g_t g_p1 t_rowSize r_4.1 r_6 t_row r_4.2 t_best p1_gapCount p1_targetCount p1_lookCount p1_time p1_gone p1_gaps p1_settings p1_spots) H := hP
            have hD : va_D A (w_X2_arrange K g_t g_p1 t_rowSize r_4.1 r_6 t_row r_4.2 t_best p1_gapCount p1_targetCount p1_lookCount p1_time p1_gone p1_gaps p1_settings p1_spots) := hD
            refine lv_aload_n hx hb dX2_arrange_67 rfl (lv_at hl 1 rfl) ?_
            refine va_get (D := D) (ci := 2) (v := .ref (g_t 1)) (C := RX2) (T := TX2) (N := 6) hx hb hts iw_X2_arrange_X2 hown hK hP 0 rfl rfl 0 (by decide) (hts _ fl_X2_arrange_9) (fun _ h9 => h9) rfl dX2_arrange_68 ?_
            refine lv_iconst (v := 0) hx hb dX2_arrange_71 (by decide) ?_
            refine lv_aload_n hx hb dX2_arrange_72 rfl (lv_at hl 1 rfl) ?_
            refine va_get (D := D) (ci := 2) (v := .ref (g_t 5)) (C := RX2) (T := TX2) (N := 6) hx hb hts iw_X2_arrange_X2 hown hK hP 0 rfl rfl 4 (by decide) (hts _ fl_X2_arrange_18) (fun _ h9 => h9) rfl dX2_arrange_73 ?_
            refine lv_iconst (v := 0) hx hb dX2_arrange_76 (by decide) ?_
            refine lv_iconst (v := 5) hx hb dX2_arrange_77 (by decide) ?_
            refine xy_i (f := t_row) (g := t_best) hx hb (hml.trans hl.1.symm) hown (hts (.methodLink RX2 33 arraycopyName) (by decide +kernel)) (hts (.native arraycopyName) (by decide +kernel)) (hts (.static arraycopyName) (by decide +kernel)) (hts (.initialized "java/lang/System") (by decide +kernel)) hK hP hD hS 1 3 0 0 rfl rfl rfl rfl (by decide) (by decide) (by decide) (k1 := 0) (k2 := 0) (k3 := 5) (by decide) (by decide) (by decide) (Nat.le_of_ble_eq_true rfl) (Nat.le_of_ble_eq_true rfl) (Nat.le_of_ble_eq_true rfl) (Nat.le_of_ble_eq_true rfl) dX2_arrange_78 (fun H locs hP hD hS => ?_)
            have hP : va_P D vwCl (w_X2_arrange K g_t g_p1 t_rowSize r_4.1 r_6 t_row r_4.2 (va_cpy t_row t_best 0 0 5) p1_gapCount p1_targetCount p1_lookCount p1_time p1_gone p1_gaps p1_settings p1_spots) H := hP
            have hD : va_D A (w_X2_arrange K g_t g_p1 t_rowSize r_4.1 r_6 t_row r_4.2 (va_cpy t_row t_best 0 0 5) p1_gapCount p1_targetCount p1_lookCount p1_time p1_gone p1_gaps p1_settings p1_spots) := hD
            exact w_X2_arrange_81 C0 HR ih t_rowSize r_4.1 r_6 t_row r_4.2 (va_cpy t_row t_best 0 0 5) x2 x4 H locs ls hP hD hS (lv_sub hl [1, 2, 3, 5] rfl) hF
def F_X2_arrange (t_rowSize : Int32) (t_pulses : Int32) (t_fewest : Int32) (t_row : Nat → Int32) (t_sent : Nat → Int32) (t_best : Nat → Int32) (p1_gapCount : Int32) (p1_targetCount : Int32) (p1_gaps : Nat → Int32) (p1_settings : Nat → Int32) (p1_spots : Nat → Int32) (x2 : Int32) : Option (Int32 × Int32 × Int32 × (Nat → Int32) × (Nat → Int32) × (Nat → Int32)) :=
  (F_X2_takeGaps t_rowSize t_row p1_gapCount p1_gaps).bind fun r_1 => (L_X2_arrange_16 p1_gapCount p1_targetCount p1_gaps p1_settings p1_spots fu_ r_1.1 t_pulses (2147483647 : Int32) r_1.2 t_sent t_best x2 (1 : Int32) (0 : Int32))
set_option maxHeartbeats 4000000 in
set_option maxRecDepth 100000 in
theorem c_X2_arrange (l : Launch) (D : va_G) (K : Nat → ClassId) (g_t : Nat → Nat) (g_p1 : Nat → Nat) (t_rowSize : Int32) (t_pulses : Int32) (t_fewest : Int32) (t_row : Nat → Int32) (t_sent : Nat → Int32) (t_best : Nat → Int32) (p1_gapCount : Int32) (p1_targetCount : Int32) (p1_lookCount : Int32) (p1_time : Int32) (p1_gone : Int32) (p1_gaps : Nat → Int32) (p1_settings : Nat → Int32) (p1_spots : Nat → Int32) (x2 : Int32) (res : Int32 × Int32 × Int32 × (Nat → Int32) × (Nat → Int32) × (Nat → Int32)) (hF : F_X2_arrange t_rowSize t_pulses t_fewest t_row t_sent t_best p1_gapCount p1_targetCount p1_gaps p1_settings p1_spots x2 = some res) :
    Mv_ l yX2_arrange wsX2_arrange rmX2_arrange D K [.ref (g_t 0), .ref (g_p1 0), .int x2] (w_X2_arrange K g_t g_p1 t_rowSize t_pulses t_fewest t_row t_sent t_best p1_gapCount p1_targetCount p1_lookCount p1_time p1_gone p1_gaps p1_settings p1_spots) (w_X2_arrange K g_t g_p1 res.1 res.2.1 res.2.2.1 res.2.2.2.1 res.2.2.2.2.1 res.2.2.2.2.2 p1_gapCount p1_targetCount p1_lookCount p1_time p1_gone p1_gaps p1_settings p1_spots) := by
  refine en_v (cc := cX2_arrange) (maxL := 6) (own := RX2) (by decide) rfl rfl (Nat.le_of_ble_eq_true rfl) ?_
  intro p e s m args below meth c A Q H locs ls C0 hP hD hS hl HR
  obtain ⟨⟨hx, hb, hml, hown, hts⟩, hK, -⟩ := id C0
  have hl : lv_has ls 6 [(0, .ref (g_t 0)), (1, .ref (g_p1 0)), (2, .int x2)] := hl
  unfold F_X2_arrange at hF
  refine lv_aload_n hx hb dX2_arrange_0 rfl (lv_at hl 0 rfl) ?_
  refine lv_aload_n hx hb dX2_arrange_1 rfl (lv_at hl 1 rfl) ?_
  obtain ⟨r_1, hc_2, hF⟩ := bn_some hF
  refine xc_v (wn := (w_X2_arrange K g_t g_p1 r_1.1 t_pulses t_fewest r_1.2 t_sent t_best p1_gapCount p1_targetCount p1_lookCount p1_time p1_gone p1_gaps p1_settings p1_spots)) hP hD hS C0.2.2.1 [0, 1, 4, 5] [2, 3, 6, 7] [4, 5, 0, 1, 6, 7, 2, 3] rfl rfl (by decide) (by decide) rfl (by decide) (va_runV (As := [.ref (g_p1 0)]) (rest := []) C0.1 (c_X2_takeGaps l D K g_t g_p1 t_rowSize t_pulses t_fewest t_row p1_gapCount p1_targetCount p1_lookCount p1_time p1_gone p1_gaps r_1 hc_2 H.size) (cwV 1 hts gX2_arrange_X2_takeGaps rfl rfl rfl (by decide +kernel) ⟨Nat.le_of_ble_eq_true rfl, Nat.le_of_ble_eq_true rfl⟩) (xp_V C0.2 hP hD hS [0, 1, 4, 5] rfl (by decide) 2 0 rfl rfl rfl) rfl rfl hl.1 rfl (lv_room (Nat.le_of_ble_eq_true rfl)) dX2_arrange_2 ⟨Nat.le_of_ble_eq_true rfl, Nat.le_of_ble_eq_true rfl⟩) (fun H locs hP hD hS => ?_)
  refine lv_aload_n hx hb dX2_arrange_5 rfl (lv_at hl 0 rfl) ?_
  refine lv_ldc (v := 2147483647) hx hb hown (hts _ ld_X2_arrange_71) dX2_arrange_6 ?_
  refine va_put (D := D) (ci := 2) (v := .int (2147483647 : Int32)) (ty := .int) (C := RX2) (T := TX2) (N := 6) hx hb hts iw_X2_arrange_X2 tyX2 tyX2_ok nmX2 hown hK hP hD hS 0 rfl rfl 5 (by decide) (hts _ fl_X2_arrange_72) (fun _ h9 => h9) rfl (by decide +kernel) rfl rfl (Nat.le_of_ble_eq_true rfl) dX2_arrange_8 (fun H locs hP hD hS => ?_)
  have hP : va_P D vwCl (w_X2_arrange K g_t g_p1 r_1.1 t_pulses (2147483647 : Int32) r_1.2 t_sent t_best p1_gapCount p1_targetCount p1_lookCount p1_time p1_gone p1_gaps p1_settings p1_spots) H := hP
  have hD : va_D A (w_X2_arrange K g_t g_p1 r_1.1 t_pulses (2147483647 : Int32) r_1.2 t_sent t_best p1_gapCount p1_targetCount p1_lookCount p1_time p1_gone p1_gaps p1_settings p1_spots) := hD
  refine lv_iconst (v := 1) hx hb dX2_arrange_11 (by decide) ?_
  refine lv_istore_n (lv' := [(3, .int (1 : Int32)), (0, .ref (g_t 0)), (1, .ref (g_p1 0)), (2, .int x2)]) hx hb dX2_arrange_12 rfl hl (by decide) rfl (fun ls hl => ?_)
  refine lv_iconst (v := 0) hx hb dX2_arrange_13 (by decide) ?_
  refine lv_istore (lv' := [(4, .int (0 : Int32)), (3, .int (1 : Int32)), (0, .ref (g_t 0)), (1, .ref (g_p1 0)), (2, .int x2)]) hx hb dX2_arrange_14 hl (by decide) rfl (fun ls hl => ?_)
  exact w_X2_arrange_16 C0 HR fu_ r_1.1 t_pulses (2147483647 : Int32) r_1.2 t_sent t_best x2 (1 : Int32) (0 : Int32) H locs ls hP hD hS (lv_sub hl [2, 3, 4, 1, 0] rfl) hF

/-! StaggerRadar.order(II)I -/
abbrev rmX10_order : Room := { frames := 4, cells := 0, slots := 0, locals := 106 }
theorem fl_X10_order_10 : Cond.fieldLink RX10 10 "StaggerRadar" "radar" "LStaggerRadar$Radar;" ∈ wsX10_order := by decide +kernel
theorem fl_X10_order_69 : Cond.fieldLink RX10 69 "StaggerRadar" "dwelling" "LStaggerRadar$Dwell;" ∈ wsX10_order := by decide +kernel
theorem fl_X10_order_122 : Cond.fieldLink RX10 122 "StaggerRadar$Radar" "gapCount" "I" ∈ wsX10_order := by decide +kernel
theorem fl_X10_order_332 : Cond.fieldLink RX10 332 "StaggerRadar$Dwell" "fewest" "I" ∈ wsX10_order := by decide +kernel
theorem fl_X10_order_335 : Cond.fieldLink RX10 335 "StaggerRadar$Dwell" "best" "[I" ∈ wsX10_order := by decide +kernel
theorem iw_X10_order_X10 : ∀ w ∈ u_ws RX10 TX10 14, w ∈ wsX10_order := by decide +kernel
theorem iw_X10_order_X2 : ∀ w ∈ u_ws RX2 TX2 6, w ∈ wsX10_order := by decide +kernel
theorem iw_X10_order_X5 : ∀ w ∈ u_ws RX5 TX5 13, w ∈ wsX10_order := by decide +kernel
abbrev w_X10_order (K : Nat → ClassId) (g_t : Nat → Nat) (g_t_radar : Nat → Nat) (g_t_draft : Nat → Nat) (g_t_text : Nat → Nat) (g_t_reader : Nat → Nat) (g_t_history : Nat → Nat) (g_t_echoes : Nat → Nat) (g_t_tracks : Nat → Nat) (g_t_dwelling : Nat → Nat) (g_t_chooser : Nat → Nat) (g_t_adviser : Nat → Nat) (t_radar_gapCount : Int32) (t_radar_targetCount : Int32) (t_radar_lookCount : Int32) (t_radar_time : Int32) (t_radar_gone : Int32) (t_radar_gaps : Nat → Int32) (t_radar_settings : Nat → Int32) (t_radar_spots : Nat → Int32) (t_dwelling_rowSize : Int32) (t_dwelling_pulses : Int32) (t_dwelling_fewest : Int32) (t_dwelling_row : Nat → Int32) (t_dwelling_sent : Nat → Int32) (t_dwelling_best : Nat → Int32) : va_W := [((g_t 0), .inr (9, [.ref (g_t_radar 0), .ref (g_t_draft 0), .ref (g_t_text 0), .ref (g_t_reader 0), .ref (g_t_history 0), .ref (g_t 6), .ref (g_t 7), .ref (g_t 8), .ref (g_t_echoes 0), .ref (g_t_tracks 0), .ref (g_t_dwelling 0), .ref (g_t_chooser 0), .ref (g_t_adviser 0), .ref (g_t 14)])), ((g_t_radar 0), .inr (5, [.ref (g_t_radar 1), .ref (g_t_radar 2), .ref (g_t_radar 3), .ref (g_t_radar 4), .ref (g_t_radar 5), .ref (g_t_radar 6), .ref (g_t_radar 7), .ref (g_t_radar 8), .int t_radar_gapCount, .int t_radar_targetCount, .int t_radar_lookCount, .int t_radar_time, .int t_radar_gone])), ((g_t_radar 1), .inl (K 0, 5, .inl t_radar_gaps)), ((g_t_radar 2), .inl (K 0, 7, .inl t_radar_settings)), ((g_t_radar 3), .inl (K 0, 8, .inl t_radar_spots)), ((g_t_dwelling 0), .inr (2, [.ref (g_t_dwelling 1), .int t_dwelling_rowSize, .ref (g_t_dwelling 3), .int t_dwelling_pulses, .ref (g_t_dwelling 5), .int t_dwelling_fewest])), ((g_t_dwelling 1), .inl (K 0, 5, .inl t_dwelling_row)), ((g_t_dwelling 3), .inl (K 0, 65, .inl t_dwelling_sent)), ((g_t_dwelling 5), .inl (K 0, 5, .inl t_dwelling_best))]
def J_X10_order_49 (t_radar_gapCount : Int32) (t_radar_targetCount : Int32) (t_radar_gaps : Nat → Int32) (t_radar_settings : Nat → Int32) (t_radar_spots : Nat → Int32) (t_dwelling_rowSize : Int32) (t_dwelling_pulses : Int32) (t_dwelling_fewest : Int32) (t_dwelling_row : Nat → Int32) (t_dwelling_sent : Nat → Int32) (t_dwelling_best : Nat → Int32) (x1 : Int32) (x2 : Int32) : Option (Int32 × Int32 × Int32 × Int32 × (Nat → Int32) × (Nat → Int32) × (Nat → Int32)) :=
  (F_X2_arrange t_dwelling_rowSize t_dwelling_pulses t_dwelling_fewest t_dwelling_row t_dwelling_sent t_dwelling_best t_radar_gapCount t_radar_targetCount t_radar_gaps t_radar_settings t_radar_spots x1).bind fun r_1 => (if x2 = (0 : Int32) then (some (r_1.2.2.1, r_1.1, r_1.2.1, r_1.2.2.1, r_1.2.2.2.1, r_1.2.2.2.2.1, r_1.2.2.2.2.2)) else (gd_ (in_b (x2 - (10 : Int32)) 5) (some ((r_1.2.2.2.2.2 (x2 - (10 : Int32)).toNatClampNeg), r_1.1, r_1.2.1, r_1.2.2.1, r_1.2.2.2.1, r_1.2.2.2.2.1, r_1.2.2.2.2.2))))
set_option maxHeartbeats 4000000 in
set_option maxRecDepth 100000 in
theorem w_X10_order_49 {p : Program} {l : Launch} {e : Env} {s : State} {m : MethodId} {args : Array Value} {below : List Frame} {meth : Method} {c : Code} {D : va_G} {K : Nat → ClassId} {A : Nat → Prop} {Q : State → Prop} (C0 : cx_ p s m args c cX10_order 3 RX10 wsX10_order D K A) {g_t : Nat → Nat} {g_t_radar : Nat → Nat} {g_t_draft : Nat → Nat} {g_t_text : Nat → Nat} {g_t_reader : Nat → Nat} {g_t_history : Nat → Nat} {g_t_echoes : Nat → Nat} {g_t_tracks : Nat → Nat} {g_t_dwelling : Nat → Nat} {g_t_chooser : Nat → Nat} {g_t_adviser : Nat → Nat} {t_radar_gapCount : Int32} {t_radar_targetCount : Int32} {t_radar_lookCount : Int32} {t_radar_time : Int32} {t_radar_gone : Int32} {t_radar_gaps : Nat → Int32} {t_radar_settings : Nat → Int32} {t_radar_spots : Nat → Int32} {res : Int32 × Int32 × Int32 × Int32 × (Nat → Int32) × (Nat → Int32) × (Nat → Int32)} (HR : ∀ (pc : Nat) (H : Heap) (locs : List Loc) (ls : Array Slot), decode cX10_order pc = .ok (.ireturn, 1) → va_P D vwCl (w_X10_order K g_t g_t_radar g_t_draft g_t_text g_t_reader g_t_history g_t_echoes g_t_tracks g_t_dwelling g_t_chooser g_t_adviser t_radar_gapCount t_radar_targetCount t_radar_lookCount t_radar_time t_radar_gone t_radar_gaps t_radar_settings t_radar_spots res.2.1 res.2.2.1 res.2.2.2.1 res.2.2.2.2.1 res.2.2.2.2.2.1 res.2.2.2.2.2.2) H → va_D A (w_X10_order K g_t g_t_radar g_t_draft g_t_text g_t_reader g_t_history g_t_echoes g_t_tracks g_t_dwelling g_t_chooser g_t_adviser t_radar_gapCount t_radar_targetCount t_radar_lookCount t_radar_time t_radar_gone t_radar_gaps t_radar_settings t_radar_spots res.2.1 res.2.2.1 res.2.2.2.1 res.2.2.2.2.1 res.2.2.2.2.2.1 res.2.2.2.2.2.2) → va_S A s.heap H locs → W p l e rmX10_order s m args below meth c H locs 0 0 Q (F0 m pc ls [.int res.1]))  :
    ∀ (t_dwelling_rowSize : Int32) (t_dwelling_pulses : Int32) (t_dwelling_fewest : Int32) (t_dwelling_row : Nat → Int32) (t_dwelling_sent : Nat → Int32) (t_dwelling_best : Nat → Int32) (x1 : Int32) (x2 : Int32) (H : Heap) (locs : List Loc) (ls : Array Slot), va_P D vwCl (w_X10_order K g_t g_t_radar g_t_draft g_t_text g_t_reader g_t_history g_t_echoes g_t_tracks g_t_dwelling g_t_chooser g_t_adviser t_radar_gapCount t_radar_targetCount t_radar_lookCount t_radar_time t_radar_gone t_radar_gaps t_radar_settings t_radar_spots t_dwelling_rowSize t_dwelling_pulses t_dwelling_fewest t_dwelling_row t_dwelling_sent t_dwelling_best) H → va_D A (w_X10_order K g_t g_t_radar g_t_draft g_t_text g_t_reader g_t_history g_t_echoes g_t_tracks g_t_dwelling g_t_chooser g_t_adviser t_radar_gapCount t_radar_targetCount t_radar_lookCount t_radar_time t_radar_gone t_radar_gaps t_radar_settings t_radar_spots t_dwelling_rowSize t_dwelling_pulses t_dwelling_fewest t_dwelling_row t_dwelling_sent t_dwelling_best) → va_S A s.heap H locs → lv_has ls 3 [(0, .ref (g_t 0)), (1, .int x1), (2, .int x2)] → J_X10_order_49 t_radar_gapCount t_radar_targetCount t_radar_gaps t_radar_settings t_radar_spots t_dwelling_rowSize t_dwelling_pulses t_dwelling_fewest t_dwelling_row t_dwelling_sent t_dwelling_best x1 x2 = some res → W p l e rmX10_order s m args below meth c H locs 0 0 Q (F0 m 49 ls []) := by
  obtain ⟨⟨hx, hb, hml, hown, hts⟩, hK, -⟩ := id C0
  intro t_dwelling_rowSize t_dwelling_pulses t_dwelling_fewest t_dwelling_row t_dwelling_sent t_dwelling_best x1 x2 H locs ls hP hD hS hl hF
  unfold J_X10_order_49 at hF
  refine lv_aload_n hx hb dX10_order_49 rfl (lv_at hl 0 rfl) ?_
  refine va_get (D := D) (ci := 9) (v := .ref (g_t_dwelling 0)) (C := RX10) (T := TX10) (N := 14) hx hb hts iw_X10_order_X10 hown hK hP 0 rfl rfl 10 (by decide) (hts _ fl_X10_order_69) (fun _ h9 => h9) rfl dX10_order_50 ?_
  refine lv_aload_n hx hb dX10_order_53 rfl (lv_at hl 0 rfl) ?_
  refine va_get (D := D) (ci := 9) (v := .ref (g_t_radar 0)) (C := RX10) (T := TX10) (N := 14) hx hb hts iw_X10_order_X10 hown hK hP 0 rfl rfl 0 (by decide) (hts _ fl_X10_order_10) (fun _ h9 => h9) rfl dX10_order_54 ?_
  refine lv_iload_n hx hb dX10_order_57 rfl (lv_at hl 1 rfl) ?_
  obtain ⟨r_1, hc_2, hF⟩ := bn_some hF
  refine xc_v (wn := (w_X10_order K g_t g_t_radar g_t_draft g_t_text g_t_reader g_t_history g_t_echoes g_t_tracks g_t_dwelling g_t_chooser g_t_adviser t_radar_gapCount t_radar_targetCount t_radar_lookCount t_radar_time t_radar_gone t_radar_gaps t_radar_settings t_radar_spots r_1.1 r_1.2.1 r_1.2.2.1 r_1.2.2.2.1 r_1.2.2.2.2.1 r_1.2.2.2.2.2)) hP hD hS C0.2.2.1 [5, 6, 7, 8, 1, 2, 3, 4] [0] [0, 5, 6, 7, 8, 1, 2, 3, 4] rfl rfl (by decide) (by decide) rfl (by decide) (va_runV (As := [.ref (g_t_radar 0), .int x1]) (rest := []) C0.1 (c_X2_arrange l D K g_t_dwelling g_t_radar t_dwelling_rowSize t_dwelling_pulses t_dwelling_fewest t_dwelling_row t_dwelling_sent t_dwelling_best t_radar_gapCount t_radar_targetCount t_radar_lookCount t_radar_time t_radar_gone t_radar_gaps t_radar_settings t_radar_spots x1 r_1 hc_2 H.size) (cwV 2 hts gX10_order_X2_arrange rfl rfl rfl (by decide +kernel) ⟨Nat.le_of_ble_eq_true rfl, Nat.le_of_ble_eq_true rfl⟩) (xp_V C0.2 hP hD hS [5, 6, 7, 8, 1, 2, 3, 4] rfl (by decide) 2 0 rfl rfl rfl) rfl rfl hl.1 rfl (lv_room (Nat.le_of_ble_eq_true rfl)) dX10_order_58 ⟨Nat.le_of_ble_eq_true rfl, Nat.le_of_ble_eq_true rfl⟩) (fun H locs hP hD hS => ?_)
  refine lv_iload_n hx hb dX10_order_61 rfl (lv_at hl 2 rfl) ?_
  refine lv_if_ne (tgt := 75) hx hb dX10_order_62 (by decide) (fun c_3 => ?_) (fun c_3 => ?_)
  · have hF := it_neg c_3 hF
    refine lv_aload_n hx hb dX10_order_75 rfl (lv_at hl 0 rfl) ?_
    refine va_get (D := D) (ci := 9) (v := .ref (g_t_dwelling 0)) (C := RX10) (T := TX10) (N := 14) hx hb hts iw_X10_order_X10 hown hK hP 0 rfl rfl 10 (by decide) (hts _ fl_X10_order_69) (fun _ h9 => h9) rfl dX10_order_76 ?_
    refine va_get (D := D) (ci := 2) (v := .ref (g_t_dwelling 5)) (C := RX2) (T := TX2) (N := 6) hx hb hts iw_X10_order_X2 hown hK hP 5 rfl rfl 4 (by decide) (hts _ fl_X10_order_335) (fun _ h9 => h9) rfl dX10_order_79 ?_
    refine lv_iload_n hx hb dX10_order_82 rfl (lv_at hl 2 rfl) ?_
    refine lv_bipush (v := 10) hx hb dX10_order_83 (by decide) ?_
    refine lv_isub hx hb dX10_order_85 ?_
    obtain ⟨hg_4, hF⟩ := gd_some hF
    refine xl_i (f := r_1.2.2.2.2.2) hx hb hK hP 8 0 rfl rfl rfl (in_v hg_4) dX10_order_86 ?_
    obtain rfl := Option.some.inj hF
    exact HR 87 H locs ls dX10_order_87 hP hD hS
  · have hF := it_pos c_3 hF
    refine lv_aload_n hx hb dX10_order_65 rfl (lv_at hl 0 rfl) ?_
    refine va_get (D := D) (ci := 9) (v := .ref (g_t_dwelling 0)) (C := RX10) (T := TX10) (N := 14) hx hb hts iw_X10_order_X10 hown hK hP 0 rfl rfl 10 (by decide) (hts _ fl_X10_order_69) (fun _ h9 => h9) rfl dX10_order_66 ?_
    refine va_get (D := D) (ci := 2) (v := .int r_1.2.2.1) (C := RX2) (T := TX2) (N := 6) hx hb hts iw_X10_order_X2 hown hK hP 5 rfl rfl 5 (by decide) (hts _ fl_X10_order_332) (fun _ h9 => h9) rfl dX10_order_69 ?_
    refine lv_goto (tgt := 87) hx hb dX10_order_72 (by decide) ?_
    obtain rfl := Option.some.inj hF
    exact HR 87 H locs ls dX10_order_87 hP hD hS
def F_X10_order (t_radar_gapCount : Int32) (t_radar_targetCount : Int32) (t_radar_gaps : Nat → Int32) (t_radar_settings : Nat → Int32) (t_radar_spots : Nat → Int32) (t_dwelling_rowSize : Int32) (t_dwelling_pulses : Int32) (t_dwelling_fewest : Int32) (t_dwelling_row : Nat → Int32) (t_dwelling_sent : Nat → Int32) (t_dwelling_best : Nat → Int32) (x1 : Int32) (x2 : Int32) : Option (Int32 × Int32 × Int32 × Int32 × (Nat → Int32) × (Nat → Int32) × (Nat → Int32)) :=
  (F_X10_isWithin x1 (1 : Int32) (64 : Int32)).bind fun r_1 => (if r_1 = (0 : Int32) then (some ((-1 : Int32), t_dwelling_rowSize, t_dwelling_pulses, t_dwelling_fewest, t_dwelling_row, t_dwelling_sent, t_dwelling_best)) else (if t_radar_gapCount = (0 : Int32) then (some ((-1 : Int32), t_dwelling_rowSize, t_dwelling_pulses, t_dwelling_fewest, t_dwelling_row, t_dwelling_sent, t_dwelling_best)) else (if x2 = (0 : Int32) then (J_X10_order_49 t_radar_gapCount t_radar_targetCount t_radar_gaps t_radar_settings t_radar_spots t_dwelling_rowSize t_dwelling_pulses t_dwelling_fewest t_dwelling_row t_dwelling_sent t_dwelling_best x1 x2) else ((F_X10_isWithin x2 (10 : Int32) (((10 : Int32) + t_radar_gapCount) - (1 : Int32))).bind fun r_6 => (if r_6 = (0 : Int32) then (some ((-1 : Int32), t_dwelling_rowSize, t_dwelling_pulses, t_dwelling_fewest, t_dwelling_row, t_dwelling_sent, t_dwelling_best)) else (J_X10_order_49 t_radar_gapCount t_radar_targetCount t_radar_gaps t_radar_settings t_radar_spots t_dwelling_rowSize t_dwelling_pulses t_dwelling_fewest t_dwelling_row t_dwelling_sent t_dwelling_best x1 x2))))))
set_option maxHeartbeats 4000000 in
set_option maxRecDepth 100000 in
theorem c_X10_order (l : Launch) (D : va_G) (K : Nat → ClassId) (g_t : Nat → Nat) (g_t_radar : Nat → Nat) (g_t_draft : Nat → Nat) (g_t_text : Nat → Nat) (g_t_reader : Nat → Nat) (g_t_history : Nat → Nat) (g_t_echoes : Nat → Nat) (g_t_tracks : Nat → Nat) (g_t_dwelling : Nat → Nat) (g_t_chooser : Nat → Nat) (g_t_adviser : Nat → Nat) (t_radar_gapCount : Int32) (t_radar_targetCount : Int32) (t_radar_lookCount : Int32) (t_radar_time : Int32) (t_radar_gone : Int32) (t_radar_gaps : Nat → Int32) (t_radar_settings : Nat → Int32) (t_radar_spots : Nat → Int32) (t_dwelling_rowSize : Int32) (t_dwelling_pulses : Int32) (t_dwelling_fewest : Int32) (t_dwelling_row : Nat → Int32) (t_dwelling_sent : Nat → Int32) (t_dwelling_best : Nat → Int32) (x1 : Int32) (x2 : Int32) (res : Int32 × Int32 × Int32 × Int32 × (Nat → Int32) × (Nat → Int32) × (Nat → Int32)) (hF : F_X10_order t_radar_gapCount t_radar_targetCount t_radar_gaps t_radar_settings t_radar_spots t_dwelling_rowSize t_dwelling_pulses t_dwelling_fewest t_dwelling_row t_dwelling_sent t_dwelling_best x1 x2 = some res) :
    Mi_ l yX10_order wsX10_order rmX10_order D K [.ref (g_t 0), .int x1, .int x2] (w_X10_order K g_t g_t_radar g_t_draft g_t_text g_t_reader g_t_history g_t_echoes g_t_tracks g_t_dwelling g_t_chooser g_t_adviser t_radar_gapCount t_radar_targetCount t_radar_lookCount t_radar_time t_radar_gone t_radar_gaps t_radar_settings t_radar_spots t_dwelling_rowSize t_dwelling_pulses t_dwelling_fewest t_dwelling_row t_dwelling_sent t_dwelling_best) (w_X10_order K g_t g_t_radar g_t_draft g_t_text g_t_reader g_t_history g_t_echoes g_t_tracks g_t_dwelling g_t_chooser g_t_adviser t_radar_gapCount t_radar_targetCount t_radar_lookCount t_radar_time t_radar_gone t_radar_gaps t_radar_settings t_radar_spots res.2.1 res.2.2.1 res.2.2.2.1 res.2.2.2.2.1 res.2.2.2.2.2.1 res.2.2.2.2.2.2) (res.1) := by
  refine en_i (cc := cX10_order) (maxL := 3) (own := RX10) (by decide) rfl rfl (Nat.le_of_ble_eq_true rfl) ?_
  intro p e s m args below meth c A Q H locs ls C0 hP hD hS hl HR
  obtain ⟨⟨hx, hb, hml, hown, hts⟩, hK, -⟩ := id C0
  have hl : lv_has ls 3 [(0, .ref (g_t 0)), (1, .int x1), (2, .int x2)] := hl
  unfold F_X10_order at hF
  refine lv_iload_n hx hb dX10_order_0 rfl (lv_at hl 1 rfl) ?_
  refine lv_iconst (v := 1) hx hb dX10_order_1 (by decide) ?_
  refine lv_bipush (v := 64) hx hb dX10_order_2 (by decide) ?_
  obtain ⟨r_1, hc_2, hF⟩ := bn_some hF
  refine xc_i (wn := (w_X10_order K g_t g_t_radar g_t_draft g_t_text g_t_reader g_t_history g_t_echoes g_t_tracks g_t_dwelling g_t_chooser g_t_adviser t_radar_gapCount t_radar_targetCount t_radar_lookCount t_radar_time t_radar_gone t_radar_gaps t_radar_settings t_radar_spots t_dwelling_rowSize t_dwelling_pulses t_dwelling_fewest t_dwelling_row t_dwelling_sent t_dwelling_best)) hP hD hS C0.2.2.1 [] [0, 1, 2, 3, 4, 5, 6, 7, 8] [0, 1, 2, 3, 4, 5, 6, 7, 8] rfl rfl (by decide) (by decide) rfl (by decide) (va_runS (As := [.int x1, .int (1 : Int32), .int (64 : Int32)]) (rest := []) C0.1 (c_X10_isWithin l D K x1 (1 : Int32) (64 : Int32) r_1 hc_2 H.size) (va_cwS 3 hts gX10_order_X10_isWithin rfl rfl rfl (by decide +kernel) ⟨Nat.le_of_ble_eq_true rfl, Nat.le_of_ble_eq_true rfl⟩) (xp_S C0.2 hP hD hS [] rfl (by decide)) rfl rfl hl.1 rfl (lv_room (Nat.le_of_ble_eq_true rfl)) dX10_order_4 ⟨Nat.le_of_ble_eq_true rfl, Nat.le_of_ble_eq_true rfl⟩) (fun H locs hP hD hS => ?_)
  refine lv_if_eq (tgt := 20) hx hb dX10_order_7 (by decide) (fun c_3 => ?_) (fun c_3 => ?_)
  · have hF := it_pos c_3 hF
    refine lv_iconst (v := (-1)) hx hb dX10_order_20 (by decide) ?_
    obtain rfl := Option.some.inj hF
    exact HR 21 H locs ls dX10_order_21 hP hD hS
  · have hF := it_neg c_3 hF
    refine lv_aload_n hx hb dX10_order_10 rfl (lv_at hl 0 rfl) ?_
    refine va_get (D := D) (ci := 9) (v := .ref (g_t_radar 0)) (C := RX10) (T := TX10) (N := 14) hx hb hts iw_X10_order_X10 hown hK hP 0 rfl rfl 0 (by decide) (hts _ fl_X10_order_10) (fun _ h9 => h9) rfl dX10_order_11 ?_
    refine va_get (D := D) (ci := 5) (v := .int t_radar_gapCount) (C := RX5) (T := TX5) (N := 13) hx hb hts iw_X10_order_X5 hown hK hP 1 rfl rfl 8 (by decide) (hts _ fl_X10_order_122) (fun _ h9 => h9) rfl dX10_order_14 ?_
    refine lv_if_ne (tgt := 22) hx hb dX10_order_17 (by decide) (fun c_4 => ?_) (fun c_4 => ?_)
    · have hF := it_neg c_4 hF
      refine lv_iload_n hx hb dX10_order_22 rfl (lv_at hl 2 rfl) ?_
      refine lv_if_eq (tgt := 49) hx hb dX10_order_23 (by decide) (fun c_5 => ?_) (fun c_5 => ?_)
      · have hF := it_pos c_5 hF
        exact w_X10_order_49 C0 HR t_dwelling_rowSize t_dwelling_pulses t_dwelling_fewest t_dwelling_row t_dwelling_sent t_dwelling_best x1 x2 H locs ls hP hD hS (lv_sub hl [0, 1, 2] rfl) hF
      · have hF := it_neg c_5 hF
        refine lv_iload_n hx hb dX10_order_26 rfl (lv_at hl 2 rfl) ?_
        refine lv_bipush (v := 10) hx hb dX10_order_27 (by decide) ?_
        refine lv_bipush (v := 10) hx hb dX10_order_29 (by decide) ?_
        refine lv_aload_n hx hb dX10_order_31 rfl (lv_at hl 0 rfl) ?_
        refine va_get (D := D) (ci := 9) (v := .ref (g_t_radar 0)) (C := RX10) (T := TX10) (N := 14) hx hb hts iw_X10_order_X10 hown hK hP 0 rfl rfl 0 (by decide) (hts _ fl_X10_order_10) (fun _ h9 => h9) rfl dX10_order_32 ?_
        refine va_get (D := D) (ci := 5) (v := .int t_radar_gapCount) (C := RX5) (T := TX5) (N := 13) hx hb hts iw_X10_order_X5 hown hK hP 1 rfl rfl 8 (by decide) (hts _ fl_X10_order_122) (fun _ h9 => h9) rfl dX10_order_35 ?_
        refine lv_iadd hx hb dX10_order_38 ?_
        refine lv_iconst (v := 1) hx hb dX10_order_39 (by decide) ?_
        refine lv_isub hx hb dX10_order_40 ?_
        obtain ⟨r_6, hc_7, hF⟩ := bn_some hF
        refine xc_i (wn := (w_X10_order K g_t g_t_radar g_t_draft g_t_text g_t_reader g_t_history g_t_echoes g_t_tracks g_t_dwelling g_t_chooser g_t_adviser t_radar_gapCount t_radar_targetCount t_radar_lookCount t_radar_time t_radar_gone t_radar_gaps t_radar_settings t_radar_spots t_dwelling_rowSize t_dwelling_pulses t_dwelling_fewest t_dwelling_row t_dwelling_sent t_dwelling_best)) hP hD hS C0.2.2.1 [] [0, 1, 2, 3, 4, 5, 6, 7, 8] [0, 1, 2, 3, 4, 5, 6, 7, 8] rfl rfl (by decide) (by decide) rfl (by decide) (va_runS (As := [.int x2, .int (10 : Int32), .int (((10 : Int32) + t_radar_gapCount) - (1 : Int32))]) (rest := []) C0.1 (c_X10_isWithin l D K x2 (10 : Int32) (((10 : Int32) + t_radar_gapCount) - (1 : Int32)) r_6 hc_7 H.size) (va_cwS 3 hts gX10_order_X10_isWithin rfl rfl rfl (by decide +kernel) ⟨Nat.le_of_ble_eq_true rfl, Nat.le_of_ble_eq_true rfl⟩) (xp_S C0.2 hP hD hS [] rfl (by decide)) rfl rfl hl.1 rfl (lv_room (Nat.le_of_ble_eq_true rfl)) dX10_order_41 ⟨Nat.le_of_ble_eq_true rfl, Nat.le_of_ble_eq_true rfl⟩) (fun H locs hP hD hS => ?_)
        refine lv_if_ne (tgt := 49) hx hb dX10_order_44 (by decide) (fun c_8 => ?_) (fun c_8 => ?_)
        · have hF := it_neg c_8 hF
          exact w_X10_order_49 C0 HR t_dwelling_rowSize t_dwelling_pulses t_dwelling_fewest t_dwelling_row t_dwelling_sent t_dwelling_best x1 x2 H locs ls hP hD hS (lv_sub hl [0, 1, 2] rfl) hF
        · have hF := it_pos c_8 hF
          refine lv_iconst (v := (-1)) hx hb dX10_order_47 (by decide) ?_
          obtain rfl := Option.some.inj hF
          exact HR 48 H locs ls dX10_order_48 hP hD hS
    · have hF := it_pos c_4 hF
      refine lv_iconst (v := (-1)) hx hb dX10_order_20 (by decide) ?_
      obtain rfl := Option.some.inj hF
      exact HR 21 H locs ls dX10_order_21 hP hD hS

/-! StaggerRadar.Echoes.countPairings(LStaggerRadar$Radar;)I -/
abbrev rmX3_countPairings : Room := { frames := 2, cells := 0, slots := 0, locals := 47 }
theorem fl_X3_countPairings_27 : Cond.fieldLink RX3 27 "StaggerRadar$Radar" "gapCount" "I" ∈ wsX3_countPairings := by decide +kernel
theorem iw_X3_countPairings_X3 : ∀ w ∈ u_ws RX3 TX3 6, w ∈ wsX3_countPairings := by decide +kernel
theorem iw_X3_countPairings_X5 : ∀ w ∈ u_ws RX5 TX5 13, w ∈ wsX3_countPairings := by decide +kernel
abbrev w_X3_countPairings (K : Nat → ClassId) (g_t : Nat → Nat) (g_p1 : Nat → Nat) (t_shownCount : Int32) (t_loud : Nat → Int32) (p1_gapCount : Int32) (p1_targetCount : Int32) (p1_lookCount : Int32) (p1_time : Int32) (p1_gone : Int32) (p1_gaps : Nat → Int32) (p1_settings : Nat → Int32) : va_W := [((g_t 0), .inr (3, [.ref (g_t 1), .ref (g_t 2), .ref (g_t 3), .ref (g_t 4), .ref (g_t 5), .int t_shownCount])), ((g_t 2), .inl (K 0, 300, .inl t_loud)), ((g_p1 0), .inr (5, [.ref (g_p1 1), .ref (g_p1 2), .ref (g_p1 3), .ref (g_p1 4), .ref (g_p1 5), .ref (g_p1 6), .ref (g_p1 7), .ref (g_p1 8), .int p1_gapCount, .int p1_targetCount, .int p1_lookCount, .int p1_time, .int p1_gone])), ((g_p1 1), .inl (K 0, 5, .inl p1_gaps)), ((g_p1 2), .inl (K 0, 7, .inl p1_settings))]
def L_X3_countPairings_13 (t_loud : Nat → Int32) (p1_gapCount : Int32) (p1_gaps : Nat → Int32) (p1_settings : Nat → Int32) : Nat → Int32 → Int32 → Option (Int32)
  | 0, _, _ => none
  | n_ + 1, x2, x3 =>
    if p1_gapCount ≤ x3 then (some x2) else ((F_X3_countOfGap t_loud p1_gaps p1_settings x3).bind fun r_2 => (L_X3_countPairings_13 t_loud p1_gapCount p1_gaps p1_settings n_ (x2 * r_2) (x3 + (1 : Int32))))
set_option maxHeartbeats 4000000 in
set_option maxRecDepth 100000 in
theorem w_X3_countPairings_13 {p : Program} {l : Launch} {e : Env} {s : State} {m : MethodId} {args : Array Value} {below : List Frame} {meth : Method} {c : Code} {D : va_G} {K : Nat → ClassId} {A : Nat → Prop} {Q : State → Prop} (C0 : cx_ p s m args c cX3_countPairings 4 RX3 wsX3_countPairings D K A) {g_t : Nat → Nat} {g_p1 : Nat → Nat} {t_shownCount : Int32} {t_loud : Nat → Int32} {p1_gapCount : Int32} {p1_targetCount : Int32} {p1_lookCount : Int32} {p1_time : Int32} {p1_gone : Int32} {p1_gaps : Nat → Int32} {p1_settings : Nat → Int32} {res : Int32} (HR : ∀ (pc : Nat) (H : Heap) (locs : List Loc) (ls : Array Slot), decode cX3_countPairings pc = .ok (.ireturn, 1) → va_P D vwCl (w_X3_countPairings K g_t g_p1 t_shownCount t_loud p1_gapCount p1_targetCount p1_lookCount p1_time p1_gone p1_gaps p1_settings) H → va_D A (w_X3_countPairings K g_t g_p1 t_shownCount t_loud p1_gapCount p1_targetCount p1_lookCount p1_time p1_gone p1_gaps p1_settings) → va_S A s.heap H locs → W p l e rmX3_countPairings s m args below meth c H locs 0 0 Q (F0 m pc ls [.int res]))  :
    ∀ (n_ : Nat) (x2 : Int32) (x3 : Int32) (H : Heap) (locs : List Loc) (ls : Array Slot), va_P D vwCl (w_X3_countPairings K g_t g_p1 t_shownCount t_loud p1_gapCount p1_targetCount p1_lookCount p1_time p1_gone p1_gaps p1_settings) H → va_D A (w_X3_countPairings K g_t g_p1 t_shownCount t_loud p1_gapCount p1_targetCount p1_lookCount p1_time p1_gone p1_gaps p1_settings) → va_S A s.heap H locs → lv_has ls 4 [(0, .ref (g_t 0)), (1, .ref (g_p1 0)), (2, .int x2), (3, .int x3)] → L_X3_countPairings_13 t_loud p1_gapCount p1_gaps p1_settings n_ x2 x3 = some res → W p l e rmX3_countPairings s m args below meth c H locs 0 0 Q (F0 m 13 ls []) := by
  obtain ⟨⟨hx, hb, hml, hown, hts⟩, hK, -⟩ := id C0
  intro n_
  induction n_ with
  | zero =>
    intro x2 x3 H locs ls hP hD hS hl hF
    exact no_s (show (none : Option (Int32)) = some res from hF)
  | succ n_ ih =>
    intro x2 x3 H locs ls hP hD hS hl hF
    rw [L_X3_countPairings_13] at hF
    refine lv_iload_n hx hb dX3_countPairings_13 rfl (lv_at hl 3 rfl) ?_
    refine lv_aload_n hx hb dX3_countPairings_14 rfl (lv_at hl 1 rfl) ?_
    refine va_get (D := D) (ci := 5) (v := .int p1_gapCount) (C := RX5) (T := TX5) (N := 13) hx hb hts iw_X3_countPairings_X5 hown hK hP 2 rfl rfl 8 (by decide) (hts _ fl_X3_countPairings_27) (fun _ h9 => h9) rfl dX3_countPairings_15 ?_
    refine lv_icmp_ge (tgt := 36) hx hb dX3_countPairings_18 (by decide) (fun c_1 => ?_) (fun c_1 => ?_)
    · have hF := it_pos c_1 hF
      refine lv_iload_n hx hb dX3_countPairings_36 rfl (lv_at hl 2 rfl) ?_
      obtain rfl := Option.some.inj hF
      exact HR 37 H locs ls dX3_countPairings_37 hP hD hS
    · have hF := it_neg c_1 hF
      refine lv_iload_n hx hb dX3_countPairings_21 rfl (lv_at hl 2 rfl) ?_
      refine lv_aload_n hx hb dX3_countPairings_22 rfl (lv_at hl 0 rfl) ?_
      refine lv_aload_n hx hb dX3_countPairings_23 rfl (lv_at hl 1 rfl) ?_
      refine lv_iload_n hx hb dX3_countPairings_24 rfl (lv_at hl 3 rfl) ?_
      obtain ⟨r_2, hc_3, hF⟩ := bn_some hF
      refine xc_i (wn := (w_X3_countPairings K g_t g_p1 t_shownCount t_loud p1_gapCount p1_targetCount p1_lookCount p1_time p1_gone p1_gaps p1_settings)) hP hD hS C0.2.2.1 [0, 1, 2, 3, 4] [] [0, 1, 2, 3, 4] rfl rfl (by decide) (by decide) rfl (by decide) (va_runV (As := [.ref (g_p1 0), .int x3]) (rest := [.int x2]) C0.1 (c_X3_countOfGap l D K g_t g_p1 t_shownCount t_loud p1_gapCount p1_targetCount p1_lookCount p1_time p1_gone p1_gaps p1_settings x3 r_2 hc_3 H.size) (cwV 2 hts gX3_countPairings_X3_countOfGap rfl rfl rfl (by decide +kernel) ⟨Nat.le_of_ble_eq_true rfl, Nat.le_of_ble_eq_true rfl⟩) (xp_V C0.2 hP hD hS [0, 1, 2, 3, 4] rfl (by decide) 3 0 rfl rfl rfl) rfl rfl hl.1 rfl (lv_room (Nat.le_of_ble_eq_true rfl)) dX3_countPairings_25 ⟨Nat.le_of_ble_eq_true rfl, Nat.le_of_ble_eq_true rfl⟩) (fun H locs hP hD hS => ?_)
      refine lv_imul hx hb dX3_countPairings_28 ?_
      refine lv_istore_n (lv' := [(2, .int (x2 * r_2)), (0, .ref (g_t 0)), (1, .ref (g_p1 0)), (3, .int x3)]) hx hb dX3_countPairings_29 rfl hl (by decide) rfl (fun ls hl => ?_)
      refine lv_iinc (v := (x3 + (1 : Int32))) (lv' := [(3, .int (x3 + (1 : Int32))), (2, .int (x2 * r_2)), (0, .ref (g_t 0)), (1, .ref (g_p1 0))]) hx hb dX3_countPairings_30 hl (k := 3) rfl (congrArg (fun z => x3 + z) (by decide)) (by decide) rfl (fun ls hl => ?_)
      refine lv_goto (tgt := 13) hx hb dX3_countPairings_33 (by decide) ?_
      exact ih (x2 * r_2) (x3 + (1 : Int32)) H locs ls hP hD hS (lv_sub hl [2, 3, 1, 0] rfl) hF
def F_X3_countPairings (t_loud : Nat → Int32) (p1_gapCount : Int32) (p1_gaps : Nat → Int32) (p1_settings : Nat → Int32) : Option (Int32) :=
  if p1_gapCount = (0 : Int32) then (some (0 : Int32)) else (L_X3_countPairings_13 t_loud p1_gapCount p1_gaps p1_settings fu_ (1 : Int32) (0 : Int32))
set_option maxHeartbeats 4000000 in
set_option maxRecDepth 100000 in
theorem c_X3_countPairings (l : Launch) (D : va_G) (K : Nat → ClassId) (g_t : Nat → Nat) (g_p1 : Nat → Nat) (t_shownCount : Int32) (t_loud : Nat → Int32) (p1_gapCount : Int32) (p1_targetCount : Int32) (p1_lookCount : Int32) (p1_time : Int32) (p1_gone : Int32) (p1_gaps : Nat → Int32) (p1_settings : Nat → Int32) (res : Int32) (hF : F_X3_countPairings t_loud p1_gapCount p1_gaps p1_settings = some res) :
    Mi_ l yX3_countPairings wsX3_countPairings rmX3_countPairings D K [.ref (g_t 0), .ref (g_p1 0)] (w_X3_countPairings K g_t g_p1 t_shownCount t_loud p1_gapCount p1_targetCount p1_lookCount p1_time p1_gone p1_gaps p1_settings) (w_X3_countPairings K g_t g_p1 t_shownCount t_loud p1_gapCount p1_targetCount p1_lookCount p1_time p1_gone p1_gaps p1_settings) (res) := by
  refine en_i (cc := cX3_countPairings) (maxL := 4) (own := RX3) (by decide) rfl rfl (Nat.le_of_ble_eq_true rfl) ?_
  intro p e s m args below meth c A Q H locs ls C0 hP hD hS hl HR
  obtain ⟨⟨hx, hb, hml, hown, hts⟩, hK, -⟩ := id C0
  have hl : lv_has ls 4 [(0, .ref (g_t 0)), (1, .ref (g_p1 0))] := hl
  unfold F_X3_countPairings at hF
  refine lv_aload_n hx hb dX3_countPairings_0 rfl (lv_at hl 1 rfl) ?_
  refine va_get (D := D) (ci := 5) (v := .int p1_gapCount) (C := RX5) (T := TX5) (N := 13) hx hb hts iw_X3_countPairings_X5 hown hK hP 2 rfl rfl 8 (by decide) (hts _ fl_X3_countPairings_27) (fun _ h9 => h9) rfl dX3_countPairings_1 ?_
  refine lv_if_ne (tgt := 9) hx hb dX3_countPairings_4 (by decide) (fun c_1 => ?_) (fun c_1 => ?_)
  · have hF := it_neg c_1 hF
    refine lv_iconst (v := 1) hx hb dX3_countPairings_9 (by decide) ?_
    refine lv_istore_n (lv' := [(2, .int (1 : Int32)), (0, .ref (g_t 0)), (1, .ref (g_p1 0))]) hx hb dX3_countPairings_10 rfl hl (by decide) rfl (fun ls hl => ?_)
    refine lv_iconst (v := 0) hx hb dX3_countPairings_11 (by decide) ?_
    refine lv_istore_n (lv' := [(3, .int (0 : Int32)), (2, .int (1 : Int32)), (0, .ref (g_t 0)), (1, .ref (g_p1 0))]) hx hb dX3_countPairings_12 rfl hl (by decide) rfl (fun ls hl => ?_)
    exact w_X3_countPairings_13 C0 HR fu_ (1 : Int32) (0 : Int32) H locs ls hP hD hS (lv_sub hl [2, 3, 1, 0] rfl) hF
  · have hF := it_pos c_1 hF
    refine lv_iconst (v := 0) hx hb dX3_countPairings_7 (by decide) ?_
    obtain rfl := Option.some.inj hF
    exact HR 8 H locs ls dX3_countPairings_8 hP hD hS

/-! StaggerRadar.Echoes.countJoined(LStaggerRadar$Radar;Z)I -/
abbrev rmX3_countJoined : Room := { frames := 3, cells := 0, slots := 0, locals := 69 }
theorem fl_X3_countJoined_18 : Cond.fieldLink RX3 18 "StaggerRadar$Echoes" "hitBits" "[I" ∈ wsX3_countJoined := by decide +kernel
theorem fl_X3_countJoined_27 : Cond.fieldLink RX3 27 "StaggerRadar$Radar" "gapCount" "I" ∈ wsX3_countJoined := by decide +kernel
theorem fl_X3_countJoined_33 : Cond.fieldLink RX3 33 "StaggerRadar$Radar" "gaps" "[I" ∈ wsX3_countJoined := by decide +kernel
theorem fl_X3_countJoined_66 : Cond.fieldLink RX3 66 "StaggerRadar$Radar" "settings" "[I" ∈ wsX3_countJoined := by decide +kernel
theorem iw_X3_countJoined_X3 : ∀ w ∈ u_ws RX3 TX3 6, w ∈ wsX3_countJoined := by decide +kernel
theorem iw_X3_countJoined_X5 : ∀ w ∈ u_ws RX5 TX5 13, w ∈ wsX3_countJoined := by decide +kernel
abbrev w_X3_countJoined (K : Nat → ClassId) (g_t : Nat → Nat) (g_p1 : Nat → Nat) (t_shownCount : Int32) (t_loud : Nat → Int32) (t_hitBits : Nat → Int32) (p1_gapCount : Int32) (p1_targetCount : Int32) (p1_lookCount : Int32) (p1_time : Int32) (p1_gone : Int32) (p1_gaps : Nat → Int32) (p1_settings : Nat → Int32) (p1_spots : Nat → Int32) : va_W := [((g_t 0), .inr (3, [.ref (g_t 1), .ref (g_t 2), .ref (g_t 3), .ref (g_t 4), .ref (g_t 5), .int t_shownCount])), ((g_t 2), .inl (K 0, 300, .inl t_loud)), ((g_t 3), .inl (K 0, 1000, .inl t_hitBits)), ((g_p1 0), .inr (5, [.ref (g_p1 1), .ref (g_p1 2), .ref (g_p1 3), .ref (g_p1 4), .ref (g_p1 5), .ref (g_p1 6), .ref (g_p1 7), .ref (g_p1 8), .int p1_gapCount, .int p1_targetCount, .int p1_lookCount, .int p1_time, .int p1_gone])), ((g_p1 1), .inl (K 0, 5, .inl p1_gaps)), ((g_p1 2), .inl (K 0, 7, .inl p1_settings)), ((g_p1 3), .inl (K 0, 8, .inl p1_spots))]
def L_X3_countJoined_62 (t_loud : Nat → Int32) (p1_gapCount : Int32) (p1_targetCount : Int32) (p1_gaps : Nat → Int32) (p1_settings : Nat → Int32) (p1_spots : Nat → Int32) : Nat → (Nat → Int32) → Int32 → Int32 → Int32 → Int32 → Int32 → Option (Int32 × (Nat → Int32))
  | 0, _, _, _, _, _, _ => none
  | n_ + 1, t_hitBits, x2, x3, x4, x5, x6 =>
    if (p1_settings 3) ≤ x6 then (some (x5, t_hitBits)) else (if x3 ≤ x6 then (some (x5, t_hitBits)) else (gd_ (in_b x6 1000) (if (t_hitBits (x6).toNatClampNeg) = x4 then (if x2 = (0 : Int32) then (L_X3_countJoined_62 t_loud p1_gapCount p1_targetCount p1_gaps p1_settings p1_spots n_ t_hitBits x2 x3 x4 (x5 + (1 : Int32)) (x6 + (1 : Int32))) else ((F_X5_isRange p1_targetCount p1_spots x6).bind fun r_6 => (if r_6 = (0 : Int32) then (L_X3_countJoined_62 t_loud p1_gapCount p1_targetCount p1_gaps p1_settings p1_spots n_ t_hitBits x2 x3 x4 (x5 + (1 : Int32)) (x6 + (1 : Int32))) else (L_X3_countJoined_62 t_loud p1_gapCount p1_targetCount p1_gaps p1_settings p1_spots n_ t_hitBits x2 x3 x4 x5 (x6 + (1 : Int32)))))) else (L_X3_countJoined_62 t_loud p1_gapCount p1_targetCount p1_gaps p1_settings p1_spots n_ t_hitBits x2 x3 x4 x5 (x6 + (1 : Int32))))))
set_option maxHeartbeats 4000000 in
set_option maxRecDepth 100000 in
theorem w_X3_countJoined_62 {p : Program} {l : Launch} {e : Env} {s : State} {m : MethodId} {args : Array Value} {below : List Frame} {meth : Method} {c : Code} {D : va_G} {K : Nat → ClassId} {A : Nat → Prop} {Q : State → Prop} (C0 : cx_ p s m args c cX3_countJoined 7 RX3 wsX3_countJoined D K A) {g_t : Nat → Nat} {g_p1 : Nat → Nat} {t_shownCount : Int32} {t_loud : Nat → Int32} {p1_gapCount : Int32} {p1_targetCount : Int32} {p1_lookCount : Int32} {p1_time : Int32} {p1_gone : Int32} {p1_gaps : Nat → Int32} {p1_settings : Nat → Int32} {p1_spots : Nat → Int32} {res : Int32 × (Nat → Int32)} (HR : ∀ (pc : Nat) (H : Heap) (locs : List Loc) (ls : Array Slot), decode cX3_countJoined pc = .ok (.ireturn, 1) → va_P D vwCl (w_X3_countJoined K g_t g_p1 t_shownCount t_loud res.2 p1_gapCount p1_targetCount p1_lookCount p1_time p1_gone p1_gaps p1_settings p1_spots) H → va_D A (w_X3_countJoined K g_t g_p1 t_shownCount t_loud res.2 p1_gapCount p1_targetCount p1_lookCount p1_time p1_gone p1_gaps p1_settings p1_spots) → va_S A s.heap H locs → W p l e rmX3_countJoined s m args below meth c H locs 0 0 Q (F0 m pc ls [.int res.1]))  :
    ∀ (n_ : Nat) (t_hitBits : Nat → Int32) (x2 : Int32) (x3 : Int32) (x4 : Int32) (x5 : Int32) (x6 : Int32) (H : Heap) (locs : List Loc) (ls : Array Slot), va_P D vwCl (w_X3_countJoined K g_t g_p1 t_shownCount t_loud t_hitBits p1_gapCount p1_targetCount p1_lookCount p1_time p1_gone p1_gaps p1_settings p1_spots) H → va_D A (w_X3_countJoined K g_t g_p1 t_shownCount t_loud t_hitBits p1_gapCount p1_targetCount p1_lookCount p1_time p1_gone p1_gaps p1_settings p1_spots) → va_S A s.heap H locs → lv_has ls 7 [(0, .ref (g_t 0)), (1, .ref (g_p1 0)), (2, .int x2), (3, .int x3), (4, .int x4), (5, .int x5), (6, .int x6)] → L_X3_countJoined_62 t_loud p1_gapCount p1_targetCount p1_gaps p1_settings p1_spots n_ t_hitBits x2 x3 x4 x5 x6 = some res → W p l e rmX3_countJoined s m args below meth c H locs 0 0 Q (F0 m 62 ls []) := by
  obtain ⟨⟨hx, hb, hml, hown, hts⟩, hK, -⟩ := id C0
  intro n_
  induction n_ with
  | zero =>
    intro t_hitBits x2 x3 x4 x5 x6 H locs ls hP hD hS hl hF
    exact no_s (show (none : Option (Int32 × (Nat → Int32))) = some res from hF)
  | succ n_ ih =>
    intro t_hitBits x2 x3 x4 x5 x6 H locs ls hP hD hS hl hF
    rw [L_X3_countJoined_62] at hF
    refine lv_iload hx hb dX3_countJoined_62 (lv_at hl 6 rfl) ?_
    refine lv_aload_n hx hb dX3_countJoined_64 rfl (lv_at hl 1 rfl) ?_
    refine va_get (D := D) (ci := 5) (v := .ref (g_p1 2)) (C := RX5) (T := TX5) (N := 13) hx hb hts iw_X3_countJoined_X5 hown hK hP 3 rfl rfl 1 (by decide) (hts _ fl_X3_countJoined_66) (fun _ h9 => h9) rfl dX3_countJoined_65 ?_
    refine lv_iconst (v := 3) hx hb dX3_countJoined_68 (by decide) ?_
    refine xl_i (f := p1_settings) hx hb hK hP 5 0 rfl rfl (k := 3) (by decide) (in_v (by decide)) dX3_countJoined_69 ?_
    refine lv_icmp_ge (tgt := 113) hx hb dX3_countJoined_70 (by decide) (fun c_1 => ?_) (fun c_1 => ?_)
    · have hF := it_pos c_1 hF
      refine lv_iload hx hb dX3_countJoined_113 (lv_at hl 5 rfl) ?_
      obtain rfl := Option.some.inj hF
      exact HR 115 H locs ls dX3_countJoined_115 hP hD hS
    · have hF := it_neg c_1 hF
      refine lv_iload hx hb dX3_countJoined_73 (lv_at hl 6 rfl) ?_
      refine lv_iload_n hx hb dX3_countJoined_75 rfl (lv_at hl 3 rfl) ?_
      refine lv_icmp_ge (tgt := 113) hx hb dX3_countJoined_76 (by decide) (fun c_2 => ?_) (fun c_2 => ?_)
      · have hF := it_pos c_2 hF
        refine lv_iload hx hb dX3_countJoined_113 (lv_at hl 5 rfl) ?_
        obtain rfl := Option.some.inj hF
        exact HR 115 H locs ls dX3_countJoined_115 hP hD hS
      · have hF := it_neg c_2 hF
        refine lv_aload_n hx hb dX3_countJoined_79 rfl (lv_at hl 0 rfl) ?_
        refine va_get (D := D) (ci := 3) (v := .ref (g_t 3)) (C := RX3) (T := TX3) (N := 6) hx hb hts iw_X3_countJoined_X3 hown hK hP 0 rfl rfl 2 (by decide) (hts _ fl_X3_countJoined_18) (fun _ h9 => h9) rfl dX3_countJoined_80 ?_
        refine lv_iload hx hb dX3_countJoined_83 (lv_at hl 6 rfl) ?_
        obtain ⟨hg_3, hF⟩ := gd_some hF
        refine xl_i (f := t_hitBits) hx hb hK hP 2 0 rfl rfl rfl (in_v hg_3) dX3_countJoined_85 ?_
        refine lv_iload hx hb dX3_countJoined_86 (lv_at hl 4 rfl) ?_
        refine lv_icmp_ne (tgt := 107) hx hb dX3_countJoined_88 (by decide) (fun c_4 => ?_) (fun c_4 => ?_)
        · have hF := it_neg c_4 hF
          refine lv_iinc (v := (x6 + (1 : Int32))) (lv' := [(6, .int (x6 + (1 : Int32))), (0, .ref (g_t 0)), (1, .ref (g_p1 0)), (2, .int x2), (3, .int x3), (4, .int x4), (5, .int x5)]) hx hb dX3_countJoined_107 hl (k := 6) rfl (congrArg (fun z => x6 + z) (by decide)) (by decide) rfl (fun ls hl => ?_)
          refine lv_goto (tgt := 62) hx hb dX3_countJoined_110 (by decide) ?_
          exact ih t_hitBits x2 x3 x4 x5 (x6 + (1 : Int32)) H locs ls hP hD hS (lv_sub hl [1, 2, 3, 4, 5, 6, 0] rfl) hF
        · have hF := it_pos c_4 hF
          refine lv_iload_n hx hb dX3_countJoined_91 rfl (lv_at hl 2 rfl) ?_
          refine lv_if_eq (tgt := 104) hx hb dX3_countJoined_92 (by decide) (fun c_5 => ?_) (fun c_5 => ?_)
          · have hF := it_pos c_5 hF
            refine lv_iinc (v := (x5 + (1 : Int32))) (lv' := [(5, .int (x5 + (1 : Int32))), (0, .ref (g_t 0)), (1, .ref (g_p1 0)), (2, .int x2), (3, .int x3), (4, .int x4), (6, .int x6)]) hx hb dX3_countJoined_104 hl (k := 5) rfl (congrArg (fun z => x5 + z) (by decide)) (by decide) rfl (fun ls hl => ?_)
            refine lv_iinc (v := (x6 + (1 : Int32))) (lv' := [(6, .int (x6 + (1 : Int32))), (5, .int (x5 + (1 : Int32))), (0, .ref (g_t 0)), (1, .ref (g_p1 0)), (2, .int x2), (3, .int x3), (4, .int x4)]) hx hb dX3_countJoined_107 hl (k := 6) rfl (congrArg (fun z => x6 + z) (by decide)) (by decide) rfl (fun ls hl => ?_)
            refine lv_goto (tgt := 62) hx hb dX3_countJoined_110 (by decide) ?_
            exact ih t_hitBits x2 x3 x4 (x5 + (1 : Int32)) (x6 + (1 : Int32)) H locs ls hP hD hS (lv_sub hl [2, 3, 4, 5, 6, 1, 0] rfl) hF
          · have hF := it_neg c_5 hF
            refine lv_aload_n hx hb dX3_countJoined_95 rfl (lv_at hl 1 rfl) ?_
            refine lv_iload hx hb dX3_countJoined_96 (lv_at hl 6 rfl) ?_
            obtain ⟨r_6, hc_7, hF⟩ := bn_some hF
            refine xc_i (wn := (w_X3_countJoined K g_t g_p1 t_shownCount t_loud t_hitBits p1_gapCount p1_targetCount p1_lookCount p1_time p1_gone p1_gaps p1_settings p1_spots)) hP hD hS C0.2.2.1 [3, 6] [0, 1, 2, 4, 5] [0, 1, 2, 5, 3, 4, 6] rfl rfl (by decide) (by decide) rfl (by decide) (va_runV (As := [.int x6]) (rest := []) C0.1 (c_X5_isRange l D K g_p1 p1_gapCount p1_targetCount p1_lookCount p1_time p1_gone p1_spots x6 r_6 hc_7 H.size) (cwV 1 hts gX3_countJoined_X5_isRange rfl rfl rfl (by decide +kernel) ⟨Nat.le_of_ble_eq_true rfl, Nat.le_of_ble_eq_true rfl⟩) (xp_V C0.2 hP hD hS [3, 6] rfl (by decide) 5 0 rfl rfl rfl) rfl rfl hl.1 rfl (lv_room (Nat.le_of_ble_eq_true rfl)) dX3_countJoined_98 ⟨Nat.le_of_ble_eq_true rfl, Nat.le_of_ble_eq_true rfl⟩) (fun H locs hP hD hS => ?_)
            refine lv_if_ne (tgt := 107) hx hb dX3_countJoined_101 (by decide) (fun c_8 => ?_) (fun c_8 => ?_)
            · have hF := it_neg c_8 hF
              refine lv_iinc (v := (x6 + (1 : Int32))) (lv' := [(6, .int (x6 + (1 : Int32))), (0, .ref (g_t 0)), (1, .ref (g_p1 0)), (2, .int x2), (3, .int x3), (4, .int x4), (5, .int x5)]) hx hb dX3_countJoined_107 hl (k := 6) rfl (congrArg (fun z => x6 + z) (by decide)) (by decide) rfl (fun ls hl => ?_)
              refine lv_goto (tgt := 62) hx hb dX3_countJoined_110 (by decide) ?_
              exact ih t_hitBits x2 x3 x4 x5 (x6 + (1 : Int32)) H locs ls hP hD hS (lv_sub hl [1, 2, 3, 4, 5, 6, 0] rfl) hF
            · have hF := it_pos c_8 hF
              refine lv_iinc (v := (x5 + (1 : Int32))) (lv' := [(5, .int (x5 + (1 : Int32))), (0, .ref (g_t 0)), (1, .ref (g_p1 0)), (2, .int x2), (3, .int x3), (4, .int x4), (6, .int x6)]) hx hb dX3_countJoined_104 hl (k := 5) rfl (congrArg (fun z => x5 + z) (by decide)) (by decide) rfl (fun ls hl => ?_)
              refine lv_iinc (v := (x6 + (1 : Int32))) (lv' := [(6, .int (x6 + (1 : Int32))), (5, .int (x5 + (1 : Int32))), (0, .ref (g_t 0)), (1, .ref (g_p1 0)), (2, .int x2), (3, .int x3), (4, .int x4)]) hx hb dX3_countJoined_107 hl (k := 6) rfl (congrArg (fun z => x6 + z) (by decide)) (by decide) rfl (fun ls hl => ?_)
              refine lv_goto (tgt := 62) hx hb dX3_countJoined_110 (by decide) ?_
              exact ih t_hitBits x2 x3 x4 (x5 + (1 : Int32)) (x6 + (1 : Int32)) H locs ls hP hD hS (lv_sub hl [2, 3, 4, 5, 6, 1, 0] rfl) hF
def J_X3_countJoined_46 (t_loud : Nat → Int32) (p1_gapCount : Int32) (p1_targetCount : Int32) (p1_gaps : Nat → Int32) (p1_settings : Nat → Int32) (p1_spots : Nat → Int32) (t_hitBits : Nat → Int32) (x2 : Int32) (x3 : Int32) : Option (Int32 × (Nat → Int32)) :=
  L_X3_countJoined_62 t_loud p1_gapCount p1_targetCount p1_gaps p1_settings p1_spots fu_ t_hitBits x2 x3 (((1 : Int32) <<< (p1_gapCount &&& 31)) - (1 : Int32)) (0 : Int32) (0 : Int32)
set_option maxHeartbeats 4000000 in
set_option maxRecDepth 100000 in
theorem w_X3_countJoined_46 {p : Program} {l : Launch} {e : Env} {s : State} {m : MethodId} {args : Array Value} {below : List Frame} {meth : Method} {c : Code} {D : va_G} {K : Nat → ClassId} {A : Nat → Prop} {Q : State → Prop} (C0 : cx_ p s m args c cX3_countJoined 7 RX3 wsX3_countJoined D K A) {g_t : Nat → Nat} {g_p1 : Nat → Nat} {t_shownCount : Int32} {t_loud : Nat → Int32} {p1_gapCount : Int32} {p1_targetCount : Int32} {p1_lookCount : Int32} {p1_time : Int32} {p1_gone : Int32} {p1_gaps : Nat → Int32} {p1_settings : Nat → Int32} {p1_spots : Nat → Int32} {res : Int32 × (Nat → Int32)} (HR : ∀ (pc : Nat) (H : Heap) (locs : List Loc) (ls : Array Slot), decode cX3_countJoined pc = .ok (.ireturn, 1) → va_P D vwCl (w_X3_countJoined K g_t g_p1 t_shownCount t_loud res.2 p1_gapCount p1_targetCount p1_lookCount p1_time p1_gone p1_gaps p1_settings p1_spots) H → va_D A (w_X3_countJoined K g_t g_p1 t_shownCount t_loud res.2 p1_gapCount p1_targetCount p1_lookCount p1_time p1_gone p1_gaps p1_settings p1_spots) → va_S A s.heap H locs → W p l e rmX3_countJoined s m args below meth c H locs 0 0 Q (F0 m pc ls [.int res.1]))  :
    ∀ (t_hitBits : Nat → Int32) (x2 : Int32) (x3 : Int32) (H : Heap) (locs : List Loc) (ls : Array Slot), va_P D vwCl (w_X3_countJoined K g_t g_p1 t_shownCount t_loud t_hitBits p1_gapCount p1_targetCount p1_lookCount p1_time p1_gone p1_gaps p1_settings p1_spots) H → va_D A (w_X3_countJoined K g_t g_p1 t_shownCount t_loud t_hitBits p1_gapCount p1_targetCount p1_lookCount p1_time p1_gone p1_gaps p1_settings p1_spots) → va_S A s.heap H locs → lv_has ls 7 [(0, .ref (g_t 0)), (1, .ref (g_p1 0)), (2, .int x2), (3, .int x3)] → J_X3_countJoined_46 t_loud p1_gapCount p1_targetCount p1_gaps p1_settings p1_spots t_hitBits x2 x3 = some res → W p l e rmX3_countJoined s m args below meth c H locs 0 0 Q (F0 m 46 ls []) := by
  obtain ⟨⟨hx, hb, hml, hown, hts⟩, hK, -⟩ := id C0
  intro t_hitBits x2 x3 H locs ls hP hD hS hl hF
  unfold J_X3_countJoined_46 at hF
  refine lv_iconst (v := 1) hx hb dX3_countJoined_46 (by decide) ?_
  refine lv_aload_n hx hb dX3_countJoined_47 rfl (lv_at hl 1 rfl) ?_
  refine va_get (D := D) (ci := 5) (v := .int p1_gapCount) (C := RX5) (T := TX5) (N := 13) hx hb hts iw_X3_countJoined_X5 hown hK hP 3 rfl rfl 8 (by decide) (hts _ fl_X3_countJoined_27) (fun _ h9 => h9) rfl dX3_countJoined_48 ?_
  refine lv_ishl hx hb dX3_countJoined_51 ?_
  refine lv_iconst (v := 1) hx hb dX3_countJoined_52 (by decide) ?_
  refine lv_isub hx hb dX3_countJoined_53 ?_
  refine lv_istore (lv' := [(4, .int (((1 : Int32) <<< (p1_gapCount &&& 31)) - (1 : Int32))), (0, .ref (g_t 0)), (1, .ref (g_p1 0)), (2, .int x2), (3, .int x3)]) hx hb dX3_countJoined_54 hl (by decide) rfl (fun ls hl => ?_)
  refine lv_iconst (v := 0) hx hb dX3_countJoined_56 (by decide) ?_
  refine lv_istore (lv' := [(5, .int (0 : Int32)), (4, .int (((1 : Int32) <<< (p1_gapCount &&& 31)) - (1 : Int32))), (0, .ref (g_t 0)), (1, .ref (g_p1 0)), (2, .int x2), (3, .int x3)]) hx hb dX3_countJoined_57 hl (by decide) rfl (fun ls hl => ?_)
  refine lv_iconst (v := 0) hx hb dX3_countJoined_59 (by decide) ?_
  refine lv_istore (lv' := [(6, .int (0 : Int32)), (5, .int (0 : Int32)), (4, .int (((1 : Int32) <<< (p1_gapCount &&& 31)) - (1 : Int32))), (0, .ref (g_t 0)), (1, .ref (g_p1 0)), (2, .int x2), (3, .int x3)]) hx hb dX3_countJoined_60 hl (by decide) rfl (fun ls hl => ?_)
  exact w_X3_countJoined_62 C0 HR fu_ t_hitBits x2 x3 (((1 : Int32) <<< (p1_gapCount &&& 31)) - (1 : Int32)) (0 : Int32) (0 : Int32) H locs ls hP hD hS (lv_sub hl [3, 4, 5, 6, 2, 1, 0] rfl) hF
def L_X3_countJoined_19 (t_loud : Nat → Int32) (p1_gapCount : Int32) (p1_targetCount : Int32) (p1_gaps : Nat → Int32) (p1_settings : Nat → Int32) (p1_spots : Nat → Int32) : Nat → (Nat → Int32) → Int32 → Int32 → Int32 → Option (Int32 × (Nat → Int32))
  | 0, _, _, _, _ => none
  | n_ + 1, t_hitBits, x2, x3, x4 =>
    if p1_gapCount ≤ x4 then (J_X3_countJoined_46 t_loud p1_gapCount p1_targetCount p1_gaps p1_settings p1_spots t_hitBits x2 x3) else (gd_ (in_b x4 5) ((F_X10_leastCommon x3 (p1_gaps (x4).toNatClampNeg)).bind fun r_3 => (L_X3_countJoined_19 t_loud p1_gapCount p1_targetCount p1_gaps p1_settings p1_spots n_ t_hitBits x2 r_3 (x4 + (1 : Int32)))))
set_option maxHeartbeats 4000000 in
set_option maxRecDepth 100000 in
theorem w_X3_countJoined_19 {p : Program} {l : Launch} {e : Env} {s : State} {m : MethodId} {args : Array Value} {below : List Frame} {meth : Method} {c : Code} {D : va_G} {K : Nat → ClassId} {A : Nat → Prop} {Q : State → Prop} (C0 : cx_ p s m args c cX3_countJoined 7 RX3 wsX3_countJoined D K A) {g_t : Nat → Nat} {g_p1 : Nat → Nat} {t_shownCount : Int32} {t_loud : Nat → Int32} {p1_gapCount : Int32} {p1_targetCount : Int32} {p1_lookCount : Int32} {p1_time : Int32} {p1_gone : Int32} {p1_gaps : Nat → Int32} {p1_settings : Nat → Int32} {p1_spots : Nat → Int32} {res : Int32 × (Nat → Int32)} (HR : ∀ (pc : Nat) (H : Heap) (locs : List Loc) (ls : Array Slot), decode cX3_countJoined pc = .ok (.ireturn, 1) → va_P D vwCl (w_X3_countJoined K g_t g_p1 t_shownCount t_loud res.2 p1_gapCount p1_targetCount p1_lookCount p1_time p1_gone p1_gaps p1_settings p1_spots) H → va_D A (w_X3_countJoined K g_t g_p1 t_shownCount t_loud res.2 p1_gapCount p1_targetCount p1_lookCount p1_time p1_gone p1_gaps p1_settings p1_spots) → va_S A s.heap H locs → W p l e rmX3_countJoined s m args below meth c H locs 0 0 Q (F0 m pc ls [.int res.1]))  :
    ∀ (n_ : Nat) (t_hitBits : Nat → Int32) (x2 : Int32) (x3 : Int32) (x4 : Int32) (H : Heap) (locs : List Loc) (ls : Array Slot), va_P D vwCl (w_X3_countJoined K g_t g_p1 t_shownCount t_loud t_hitBits p1_gapCount p1_targetCount p1_lookCount p1_time p1_gone p1_gaps p1_settings p1_spots) H → va_D A (w_X3_countJoined K g_t g_p1 t_shownCount t_loud t_hitBits p1_gapCount p1_targetCount p1_lookCount p1_time p1_gone p1_gaps p1_settings p1_spots) → va_S A s.heap H locs → lv_has ls 7 [(0, .ref (g_t 0)), (1, .ref (g_p1 0)), (2, .int x2), (3, .int x3), (4, .int x4)] → L_X3_countJoined_19 t_loud p1_gapCount p1_targetCount p1_gaps p1_settings p1_spots n_ t_hitBits x2 x3 x4 = some res → W p l e rmX3_countJoined s m args below meth c H locs 0 0 Q (F0 m 19 ls []) := by
  obtain ⟨⟨hx, hb, hml, hown, hts⟩, hK, -⟩ := id C0
  intro n_
  induction n_ with
  | zero =>
    intro t_hitBits x2 x3 x4 H locs ls hP hD hS hl hF
    exact no_s (show (none : Option (Int32 × (Nat → Int32))) = some res from hF)
  | succ n_ ih =>
    intro t_hitBits x2 x3 x4 H locs ls hP hD hS hl hF
    rw [L_X3_countJoined_19] at hF
    refine lv_iload hx hb dX3_countJoined_19 (lv_at hl 4 rfl) ?_
    refine lv_aload_n hx hb dX3_countJoined_21 rfl (lv_at hl 1 rfl) ?_
    refine va_get (D := D) (ci := 5) (v := .int p1_gapCount) (C := RX5) (T := TX5) (N := 13) hx hb hts iw_X3_countJoined_X5 hown hK hP 3 rfl rfl 8 (by decide) (hts _ fl_X3_countJoined_27) (fun _ h9 => h9) rfl dX3_countJoined_22 ?_
    refine lv_icmp_ge (tgt := 46) hx hb dX3_countJoined_25 (by decide) (fun c_1 => ?_) (fun c_1 => ?_)
    · have hF := it_pos c_1 hF
      exact w_X3_countJoined_46 C0 HR t_hitBits x2 x3 H locs ls hP hD hS (lv_sub hl [0, 1, 2, 3] rfl) hF
    · have hF := it_neg c_1 hF
      refine lv_iload_n hx hb dX3_countJoined_28 rfl (lv_at hl 3 rfl) ?_
      refine lv_aload_n hx hb dX3_countJoined_29 rfl (lv_at hl 1 rfl) ?_
      refine va_get (D := D) (ci := 5) (v := .ref (g_p1 1)) (C := RX5) (T := TX5) (N := 13) hx hb hts iw_X3_countJoined_X5 hown hK hP 3 rfl rfl 0 (by decide) (hts _ fl_X3_countJoined_33) (fun _ h9 => h9) rfl dX3_countJoined_30 ?_
      refine lv_iload hx hb dX3_countJoined_33 (lv_at hl 4 rfl) ?_
      obtain ⟨hg_2, hF⟩ := gd_some hF
      refine xl_i (f := p1_gaps) hx hb hK hP 4 0 rfl rfl rfl (in_v hg_2) dX3_countJoined_35 ?_
      obtain ⟨r_3, hc_4, hF⟩ := bn_some hF
      refine xc_i (wn := (w_X3_countJoined K g_t g_p1 t_shownCount t_loud t_hitBits p1_gapCount p1_targetCount p1_lookCount p1_time p1_gone p1_gaps p1_settings p1_spots)) hP hD hS C0.2.2.1 [] [0, 1, 2, 3, 4, 5, 6] [0, 1, 2, 3, 4, 5, 6] rfl rfl (by decide) (by decide) rfl (by decide) (va_runSN (host := "StaggerRadar") (As := [.int x3, .int (p1_gaps (x4).toNatClampNeg)]) (rest := []) C0.1 (c_X10_leastCommon l D K x3 (p1_gaps (x4).toNatClampNeg) r_3 hc_4 H.size) ⟨va_cnB 2 hts gX3_countJoined_X10_leastCommon_n129 rfl rfl rfl (C0.2.2.2.1.1 ("StaggerRadar$Echoes", 129, ⟨"StaggerRadar", "leastCommon", "(II)I"⟩, "StaggerRadar") (by decide +kernel)) (hts (.initialized RX10) (by decide +kernel)) (by decide +kernel) ⟨Nat.le_of_ble_eq_true rfl, Nat.le_of_ble_eq_true rfl⟩, hts (.static yX10_leastCommon) (by decide +kernel), trivial⟩ (xp_S C0.2 hP hD hS [] rfl (by decide)) rfl rfl hl.1 rfl (lv_room (Nat.le_of_ble_eq_true rfl)) dX3_countJoined_36 ⟨Nat.le_of_ble_eq_true rfl, Nat.le_of_ble_eq_true rfl⟩) (fun H locs hP hD hS => ?_)
      refine lv_istore_n (lv' := [(3, .int r_3), (0, .ref (g_t 0)), (1, .ref (g_p1 0)), (2, .int x2), (4, .int x4)]) hx hb dX3_countJoined_39 rfl hl (by decide) rfl (fun ls hl => ?_)
      refine lv_iinc (v := (x4 + (1 : Int32))) (lv' := [(4, .int (x4 + (1 : Int32))), (3, .int r_3), (0, .ref (g_t 0)), (1, .ref (g_p1 0)), (2, .int x2)]) hx hb dX3_countJoined_40 hl (k := 4) rfl (congrArg (fun z => x4 + z) (by decide)) (by decide) rfl (fun ls hl => ?_)
      refine lv_goto (tgt := 19) hx hb dX3_countJoined_43 (by decide) ?_
      exact ih t_hitBits x2 r_3 (x4 + (1 : Int32)) H locs ls hP hD hS (lv_sub hl [2, 3, 4, 1, 0] rfl) hF
def F_X3_countJoined (t_loud : Nat → Int32) (t_hitBits : Nat → Int32) (p1_gapCount : Int32) (p1_targetCount : Int32) (p1_gaps : Nat → Int32) (p1_settings : Nat → Int32) (p1_spots : Nat → Int32) (x2 : Int32) : Option (Int32 × (Nat → Int32)) :=
  if p1_gapCount = (0 : Int32) then (some ((0 : Int32), t_hitBits)) else ((F_X3_markHits t_loud t_hitBits p1_gapCount p1_gaps p1_settings).bind fun r_2 => (L_X3_countJoined_19 t_loud p1_gapCount p1_targetCount p1_gaps p1_settings p1_spots fu_ r_2 x2 (1 : Int32) (0 : Int32)))
set_option maxHeartbeats 4000000 in
set_option maxRecDepth 100000 in
theorem c_X3_countJoined (l : Launch) (D : va_G) (K : Nat → ClassId) (g_t : Nat → Nat) (g_p1 : Nat → Nat) (t_shownCount : Int32) (t_loud : Nat → Int32) (t_hitBits : Nat → Int32) (p1_gapCount : Int32) (p1_targetCount : Int32) (p1_lookCount : Int32) (p1_time : Int32) (p1_gone : Int32) (p1_gaps : Nat → Int32) (p1_settings : Nat → Int32) (p1_spots : Nat → Int32) (x2 : Int32) (res : Int32 × (Nat → Int32)) (hF : F_X3_countJoined t_loud t_hitBits p1_gapCount p1_targetCount p1_gaps p1_settings p1_spots x2 = some res) :
    Mi_ l yX3_countJoined wsX3_countJoined rmX3_countJoined D K [.ref (g_t 0), .ref (g_p1 0), .int x2] (w_X3_countJoined K g_t g_p1 t_shownCount t_loud t_hitBits p1_gapCount p1_targetCount p1_lookCount p1_time p1_gone p1_gaps p1_settings p1_spots) (w_X3_countJoined K g_t g_p1 t_shownCount t_loud res.2 p1_gapCount p1_targetCount p1_lookCount p1_time p1_gone p1_gaps p1_settings p1_spots) (res.1) := by
  refine en_i (cc := cX3_countJoined) (maxL := 7) (own := RX3) (by decide) rfl rfl (Nat.le_of_ble_eq_true rfl) ?_
  intro p e s m args below meth c A Q H locs ls C0 hP hD hS hl HR
  obtain ⟨⟨hx, hb, hml, hown, hts⟩, hK, -⟩ := id C0
  have hl : lv_has ls 7 [(0, .ref (g_t 0)), (1, .ref (g_p1 0)), (2, .int x2)] := hl
  unfold F_X3_countJoined at hF
  refine lv_aload_n hx hb dX3_countJoined_0 rfl (lv_at hl 1 rfl) ?_
  refine va_get (D := D) (ci := 5) (v := .int p1_gapCount) (C := RX5) (T := TX5) (N := 13) hx hb hts iw_X3_countJoined_X5 hown hK hP 3 rfl rfl 8 (by decide) (hts _ fl_X3_countJoined_27) (fun _ h9 => h9) rfl dX3_countJoined_1 ?_
  refine lv_if_ne (tgt := 9) hx hb dX3_countJoined_4 (by decide) (fun c_1 => ?_) (fun c_1 => ?_)
  · have hF := it_neg c_1 hF
    refine lv_aload_n hx hb dX3_countJoined_9 rfl (lv_at hl 0 rfl) ?_
    refine lv_aload_n hx hb dX3_countJoined_10 rfl (lv_at hl 1 rfl) ?_
    obtain ⟨r_2, hc_3, hF⟩ := bn_some hF
    refine xc_v (wn := (w_X3_countJoined K g_t g_p1 t_shownCount t_loud r_2 p1_gapCount p1_targetCount p1_lookCount p1_time p1_gone p1_gaps p1_settings p1_spots)) hP hD hS C0.2.2.1 [0, 1, 2, 3, 4, 5] [6] [1, 2, 3, 4, 5, 6, 0] rfl rfl (by decide) (by decide) rfl (by decide) (va_runV (As := [.ref (g_p1 0)]) (rest := []) C0.1 (c_X3_markHits l D K g_t g_p1 t_shownCount t_loud t_hitBits p1_gapCount p1_targetCount p1_lookCount p1_time p1_gone p1_gaps p1_settings r_2 hc_3 H.size) (cwV 1 hts gX3_countJoined_X3_markHits rfl rfl rfl (by decide +kernel) ⟨Nat.le_of_ble_eq_true rfl, Nat.le_of_ble_eq_true rfl⟩) (xp_V C0.2 hP hD hS [0, 1, 2, 3, 4, 5] rfl (by decide) 3 0 rfl rfl rfl) rfl rfl hl.1 rfl (lv_room (Nat.le_of_ble_eq_true rfl)) dX3_countJoined_11 ⟨Nat.le_of_ble_eq_true rfl, Nat.le_of_ble_eq_true rfl⟩) (fun H locs hP hD hS => ?_)
    refine lv_iconst (v := 1) hx hb dX3_countJoined_14 (by decide) ?_
    refine lv_istore_n (lv' := [(3, .int (1 : Int32)), (0, .ref (g_t 0)), (1, .ref (g_p1 0)), (2, .int x2)]) hx hb dX3_countJoined_15 rfl hl (by decide) rfl (fun ls hl => ?_)
    refine lv_iconst (v := 0) hx hb dX3_countJoined_16 (by decide) ?_
    refine lv_istore (lv' := [(4, .int (0 : Int32)), (3, .int (1 : Int32)), (0, .ref (g_t 0)), (1, .ref (g_p1 0)), (2, .int x2)]) hx hb dX3_countJoined_17 hl (by decide) rfl (fun ls hl => ?_)
    exact w_X3_countJoined_19 C0 HR fu_ r_2 x2 (1 : Int32) (0 : Int32) H locs ls hP hD hS (lv_sub hl [2, 3, 4, 1, 0] rfl) hF
  · have hF := it_pos c_1 hF
    refine lv_iconst (v := 0) hx hb dX3_countJoined_7 (by decide) ?_
    obtain rfl := Option.some.inj hF
    exact HR 8 H locs ls dX3_countJoined_8 hP hD hS

/-! StaggerRadar.pairs(I)I -/
abbrev rmX10_pairs : Room := { frames := 5, cells := 0, slots := 0, locals := 115 }
theorem fl_X10_pairs_10 : Cond.fieldLink RX10 10 "StaggerRadar" "radar" "LStaggerRadar$Radar;" ∈ wsX10_pairs := by decide +kernel
theorem fl_X10_pairs_55 : Cond.fieldLink RX10 55 "StaggerRadar" "echoes" "LStaggerRadar$Echoes;" ∈ wsX10_pairs := by decide +kernel
theorem iw_X10_pairs_X10 : ∀ w ∈ u_ws RX10 TX10 14, w ∈ wsX10_pairs := by decide +kernel
theorem iw_X10_pairs_X3 : ∀ w ∈ u_ws RX3 TX3 6, w ∈ wsX10_pairs := by decide +kernel
theorem iw_X10_pairs_X5 : ∀ w ∈ u_ws RX5 TX5 13, w ∈ wsX10_pairs := by decide +kernel
abbrev w_X10_pairs (K : Nat → ClassId) (g_t : Nat → Nat) (g_t_radar : Nat → Nat) (g_t_draft : Nat → Nat) (g_t_text : Nat → Nat) (g_t_reader : Nat → Nat) (g_t_history : Nat → Nat) (g_t_echoes : Nat → Nat) (g_t_tracks : Nat → Nat) (g_t_dwelling : Nat → Nat) (g_t_chooser : Nat → Nat) (g_t_adviser : Nat → Nat) (t_radar_gapCount : Int32) (t_radar_targetCount : Int32) (t_radar_lookCount : Int32) (t_radar_time : Int32) (t_radar_gone : Int32) (t_radar_gaps : Nat → Int32) (t_radar_settings : Nat → Int32) (t_radar_spots : Nat → Int32) (t_radar_speeds : Nat → Int32) (t_radar_strengths : Nat → Int32) (t_echoes_shownCount : Int32) (t_echoes_targets : Nat → Int32) (t_echoes_loud : Nat → Int32) (t_echoes_hitBits : Nat → Int32) : va_W := [((g_t 0), .inr (9, [.ref (g_t_radar 0), .ref (g_t_draft 0), .ref (g_t_text 0), .ref (g_t_reader 0), .ref (g_t_history 0), .ref (g_t 6), .ref (g_t 7), .ref (g_t 8), .ref (g_t_echoes 0), .ref (g_t_tracks 0), .ref (g_t_dwelling 0), .ref (g_t_chooser 0), .ref (g_t_adviser 0), .ref (g_t 14)])), ((g_t_radar 0), .inr (5, [.ref (g_t_radar 1), .ref (g_t_radar 2), .ref (g_t_radar 3), .ref (g_t_radar 4), .ref (g_t_radar 5), .ref (g_t_radar 6), .ref (g_t_radar 7), .ref (g_t_radar 8), .int t_radar_gapCount, .int t_radar_targetCount, .int t_radar_lookCount, .int t_radar_time, .int t_radar_gone])), ((g_t_radar 1), .inl (K 0, 5, .inl t_radar_gaps)), ((g_t_radar 2), .inl (K 0, 7, .inl t_radar_settings)), ((g_t_radar 3), .inl (K 0, 8, .inl t_radar_spots)), ((g_t_radar 4), .inl (K 0, 8, .inl t_radar_speeds)), ((g_t_radar 5), .inl (K 0, 8, .inl t_radar_strengths)), ((g_t_echoes 0), .inr (3, [.ref (g_t_echoes 1), .ref (g_t_echoes 2), .ref (g_t_echoes 3), .ref (g_t_echoes 4), .ref (g_t_echoes 5), .int t_echoes_shownCount])), ((g_t_echoes 1), .inl (K 0, 300, .inl t_echoes_targets)), ((g_t_echoes 2), .inl (K 0, 300, .inl t_echoes_loud)), ((g_t_echoes 3), .inl (K 0, 1000, .inl t_echoes_hitBits))]
def J_X10_pairs_58 (t_radar_gapCount : Int32) (t_radar_targetCount : Int32) (t_radar_gaps : Nat → Int32) (t_radar_settings : Nat → Int32) (t_radar_spots : Nat → Int32) (t_radar_speeds : Nat → Int32) (t_radar_strengths : Nat → Int32) (t_echoes_targets : Nat → Int32) (t_echoes_loud : Nat → Int32) (t_echoes_hitBits : Nat → Int32) (s2 : Int32) : Option (Int32 × (Nat → Int32) × (Nat → Int32) × (Nat → Int32)) :=
  (F_X3_countJoined t_echoes_loud t_echoes_hitBits t_radar_gapCount t_radar_targetCount t_radar_gaps t_radar_settings t_radar_spots s2).bind fun r_1 => (some (r_1.1, t_echoes_targets, t_echoes_loud, r_1.2))
set_option maxHeartbeats 4000000 in
set_option maxRecDepth 100000 in
theorem w_X10_pairs_58 {p : Program} {l : Launch} {e : Env} {s : State} {m : MethodId} {args : Array Value} {below : List Frame} {meth : Method} {c : Code} {D : va_G} {K : Nat → ClassId} {A : Nat → Prop} {Q : State → Prop} (C0 : cx_ p s m args c cX10_pairs 2 RX10 wsX10_pairs D K A) {g_t : Nat → Nat} {g_t_radar : Nat → Nat} {g_t_draft : Nat → Nat} {g_t_text : Nat → Nat} {g_t_reader : Nat → Nat} {g_t_history : Nat → Nat} {g_t_echoes : Nat → Nat} {g_t_tracks : Nat → Nat} {g_t_dwelling : Nat → Nat} {g_t_chooser : Nat → Nat} {g_t_adviser : Nat → Nat} {t_radar_gapCount : Int32} {t_radar_targetCount : Int32} {t_radar_lookCount : Int32} {t_radar_time : Int32} {t_radar_gone : Int32} {t_radar_gaps : Nat → Int32} {t_radar_settings : Nat → Int32} {t_radar_spots : Nat → Int32} {t_radar_speeds : Nat → Int32} {t_radar_strengths : Nat → Int32} {t_echoes_shownCount : Int32} {res : Int32 × (Nat → Int32) × (Nat → Int32) × (Nat → Int32)} (HR : ∀ (pc : Nat) (H : Heap) (locs : List Loc) (ls : Array Slot), decode cX10_pairs pc = .ok (.ireturn, 1) → va_P D vwCl (w_X10_pairs K g_t g_t_radar g_t_draft g_t_text g_t_reader g_t_history g_t_echoes g_t_tracks g_t_dwelling g_t_chooser g_t_adviser t_radar_gapCount t_radar_targetCount t_radar_lookCount t_radar_time t_radar_gone t_radar_gaps t_radar_settings t_radar_spots t_radar_speeds t_radar_strengths t_echoes_shownCount res.2.1 res.2.2.1 res.2.2.2) H → va_D A (w_X10_pairs K g_t g_t_radar g_t_draft g_t_text g_t_reader g_t_history g_t_echoes g_t_tracks g_t_dwelling g_t_chooser g_t_adviser t_radar_gapCount t_radar_targetCount t_radar_lookCount t_radar_time t_radar_gone t_radar_gaps t_radar_settings t_radar_spots t_radar_speeds t_radar_strengths t_echoes_shownCount res.2.1 res.2.2.1 res.2.2.2) → va_S A s.heap H locs → W p l e rmX10_pairs s m args below meth c H locs 0 0 Q (F0 m pc ls [.int res.1]))  :
    ∀ (t_echoes_targets : Nat → Int32) (t_echoes_loud : Nat → Int32) (t_echoes_hitBits : Nat → Int32) (s2 : Int32) (H : Heap) (locs : List Loc) (ls : Array Slot), va_P D vwCl (w_X10_pairs K g_t g_t_radar g_t_draft g_t_text g_t_reader g_t_history g_t_echoes g_t_tracks g_t_dwelling g_t_chooser g_t_adviser t_radar_gapCount t_radar_targetCount t_radar_lookCount t_radar_time t_radar_gone t_radar_gaps t_radar_settings t_radar_spots t_radar_speeds t_radar_strengths t_echoes_shownCount t_echoes_targets t_echoes_loud t_echoes_hitBits) H → va_D A (w_X10_pairs K g_t g_t_radar g_t_draft g_t_text g_t_reader g_t_history g_t_echoes g_t_tracks g_t_dwelling g_t_chooser g_t_adviser t_radar_gapCount t_radar_targetCount t_radar_lookCount t_radar_time t_radar_gone t_radar_gaps t_radar_settings t_radar_spots t_radar_speeds t_radar_strengths t_echoes_shownCount t_echoes_targets t_echoes_loud t_echoes_hitBits) → va_S A s.heap H locs → lv_has ls 2 [] → J_X10_pairs_58 t_radar_gapCount t_radar_targetCount t_radar_gaps t_radar_settings t_radar_spots t_radar_speeds t_radar_strengths t_echoes_targets t_echoes_loud t_echoes_hitBits s2 = some res → W p l e rmX10_pairs s m args below meth c H locs 0 0 Q (F0 m 58 ls [.int s2, .ref (g_t_radar 0), .ref (g_t_echoes 0)]) := by
  obtain ⟨⟨hx, hb, hml, hown, hts⟩, hK, -⟩ := id C0
  intro t_echoes_targets t_echoes_loud t_echoes_hitBits s2 H locs ls hP hD hS hl hF
  unfold J_X10_pairs_58 at hF
  obtain ⟨r_1, hc_2, hF⟩ := bn_some hF
  refine xc_i (wn := (w_X10_pairs K g_t g_t_radar g_t_draft g_t_text g_t_reader g_t_history g_t_echoes g_t_tracks g_t_dwelling g_t_chooser g_t_adviser t_radar_gapCount t_radar_targetCount t_radar_lookCount t_radar_time t_radar_gone t_radar_gaps t_radar_settings t_radar_spots t_radar_speeds t_radar_strengths t_echoes_shownCount t_echoes_targets t_echoes_loud r_1.2)) hP hD hS C0.2.2.1 [7, 9, 10, 1, 2, 3, 4] [0, 5, 6, 8] [0, 7, 8, 9, 10, 1, 2, 4, 3, 5, 6] rfl rfl (by decide) (by decide) rfl (by decide) (va_runV (As := [.ref (g_t_radar 0), .int s2]) (rest := []) C0.1 (c_X3_countJoined l D K g_t_echoes g_t_radar t_echoes_shownCount t_echoes_loud t_echoes_hitBits t_radar_gapCount t_radar_targetCount t_radar_lookCount t_radar_time t_radar_gone t_radar_gaps t_radar_settings t_radar_spots s2 r_1 hc_2 H.size) (cwV 2 hts gX10_pairs_X3_countJoined rfl rfl rfl (by decide +kernel) ⟨Nat.le_of_ble_eq_true rfl, Nat.le_of_ble_eq_true rfl⟩) (xp_V C0.2 hP hD hS [7, 9, 10, 1, 2, 3, 4] rfl (by decide) 3 0 rfl rfl rfl) rfl rfl hl.1 rfl (lv_room (Nat.le_of_ble_eq_true rfl)) dX10_pairs_58 ⟨Nat.le_of_ble_eq_true rfl, Nat.le_of_ble_eq_true rfl⟩) (fun H locs hP hD hS => ?_)
  obtain rfl := Option.some.inj hF
  exact HR 61 H locs ls dX10_pairs_61 hP hD hS
def F_X10_pairs (t_radar_gapCount : Int32) (t_radar_targetCount : Int32) (t_radar_gaps : Nat → Int32) (t_radar_settings : Nat → Int32) (t_radar_spots : Nat → Int32) (t_radar_speeds : Nat → Int32) (t_radar_strengths : Nat → Int32) (t_echoes_targets : Nat → Int32) (t_echoes_loud : Nat → Int32) (t_echoes_hitBits : Nat → Int32) (x1 : Int32) : Option (Int32 × (Nat → Int32) × (Nat → Int32) × (Nat → Int32)) :=
  (F_X10_isWithin x1 (0 : Int32) (2 : Int32)).bind fun r_1 => (if r_1 = (0 : Int32) then (some ((-1 : Int32), t_echoes_targets, t_echoes_loud, t_echoes_hitBits)) else ((F_X3_listen t_echoes_targets t_echoes_loud t_radar_gapCount t_radar_targetCount t_radar_gaps t_radar_settings t_radar_spots t_radar_speeds t_radar_strengths).bind fun r_4 => (if x1 = (0 : Int32) then ((F_X3_countPairings r_4.2 t_radar_gapCount t_radar_gaps t_radar_settings).bind fun r_8 => (some (r_8, r_4.1, r_4.2, t_echoes_hitBits))) else (if x1 = (2 : Int32) then (J_X10_pairs_58 t_radar_gapCount t_radar_targetCount t_radar_gaps t_radar_settings t_radar_spots t_radar_speeds t_radar_strengths r_4.1 r_4.2 t_echoes_hitBits (1 : Int32)) else (J_X10_pairs_58 t_radar_gapCount t_radar_targetCount t_radar_gaps t_radar_settings t_radar_spots t_radar_speeds t_radar_strengths r_4.1 r_4.2 t_echoes_hitBits (0 : Int32))))))
set_option maxHeartbeats 4000000 in
set_option maxRecDepth 100000 in
theorem c_X10_pairs (l : Launch) (D : va_G) (K : Nat → ClassId) (g_t : Nat → Nat) (g_t_radar : Nat → Nat) (g_t_draft : Nat → Nat) (g_t_text : Nat → Nat) (g_t_reader : Nat → Nat) (g_t_history : Nat → Nat) (g_t_echoes : Nat → Nat) (g_t_tracks : Nat → Nat) (g_t_dwelling : Nat → Nat) (g_t_chooser : Nat → Nat) (g_t_adviser : Nat → Nat) (t_radar_gapCount : Int32) (t_radar_targetCount : Int32) (t_radar_lookCount : Int32) (t_radar_time : Int32) (t_radar_gone : Int32) (t_radar_gaps : Nat → Int32) (t_radar_settings : Nat → Int32) (t_radar_spots : Nat → Int32) (t_radar_speeds : Nat → Int32) (t_radar_strengths : Nat → Int32) (t_echoes_shownCount : Int32) (t_echoes_targets : Nat → Int32) (t_echoes_loud : Nat → Int32) (t_echoes_hitBits : Nat → Int32) (x1 : Int32) (res : Int32 × (Nat → Int32) × (Nat → Int32) × (Nat → Int32)) (hF : F_X10_pairs t_radar_gapCount t_radar_targetCount t_radar_gaps t_radar_settings t_radar_spots t_radar_speeds t_radar_strengths t_echoes_targets t_echoes_loud t_echoes_hitBits x1 = some res) :
    Mi_ l yX10_pairs wsX10_pairs rmX10_pairs D K [.ref (g_t 0), .int x1] (w_X10_pairs K g_t g_t_radar g_t_draft g_t_text g_t_reader g_t_history g_t_echoes g_t_tracks g_t_dwelling g_t_chooser g_t_adviser t_radar_gapCount t_radar_targetCount t_radar_lookCount t_radar_time t_radar_gone t_radar_gaps t_radar_settings t_radar_spots t_radar_speeds t_radar_strengths t_echoes_shownCount t_echoes_targets t_echoes_loud t_echoes_hitBits) (w_X10_pairs K g_t g_t_radar g_t_draft g_t_text g_t_reader g_t_history g_t_echoes g_t_tracks g_t_dwelling g_t_chooser g_t_adviser t_radar_gapCount t_radar_targetCount t_radar_lookCount t_radar_time t_radar_gone t_radar_gaps t_radar_settings t_radar_spots t_radar_speeds t_radar_strengths t_echoes_shownCount res.2.1 res.2.2.1 res.2.2.2) (res.1) := by
  refine en_i (cc := cX10_pairs) (maxL := 2) (own := RX10) (by decide) rfl rfl (Nat.le_of_ble_eq_true rfl) ?_
  intro p e s m args below meth c A Q H locs ls C0 hP hD hS hl HR
  obtain ⟨⟨hx, hb, hml, hown, hts⟩, hK, -⟩ := id C0
  have hl : lv_has ls 2 [(0, .ref (g_t 0)), (1, .int x1)] := hl
  unfold F_X10_pairs at hF
  refine lv_iload_n hx hb dX10_pairs_0 rfl (lv_at hl 1 rfl) ?_
  refine lv_iconst (v := 0) hx hb dX10_pairs_1 (by decide) ?_
  refine lv_iconst (v := 2) hx hb dX10_pairs_2 (by decide) ?_
  obtain ⟨r_1, hc_2, hF⟩ := bn_some hF
  refine xc_i (wn := (w_X10_pairs K g_t g_t_radar g_t_draft g_t_text g_t_reader g_t_history g_t_echoes g_t_tracks g_t_dwelling g_t_chooser g_t_adviser t_radar_gapCount t_radar_targetCount t_radar_lookCount t_radar_time t_radar_gone t_radar_gaps t_radar_settings t_radar_spots t_radar_speeds t_radar_strengths t_echoes_shownCount t_echoes_targets t_echoes_loud t_echoes_hitBits)) hP hD hS C0.2.2.1 [] [0, 1, 2, 3, 4, 5, 6, 7, 8, 9, 10] [0, 1, 2, 3, 4, 5, 6, 7, 8, 9, 10] rfl rfl (by decide) (by decide) rfl (by decide) (va_runS (As := [.int x1, .int (0 : Int32), .int (2 : Int32)]) (rest := []) C0.1 (c_X10_isWithin l D K x1 (0 : Int32) (2 : Int32) r_1 hc_2 H.size) (va_cwS 3 hts gX10_pairs_X10_isWithin rfl rfl rfl (by decide +kernel) ⟨Nat.le_of_ble_eq_true rfl, Nat.le_of_ble_eq_true rfl⟩) (xp_S C0.2 hP hD hS [] rfl (by decide)) rfl rfl hl.1 rfl (lv_room (Nat.le_of_ble_eq_true rfl)) dX10_pairs_3 ⟨Nat.le_of_ble_eq_true rfl, Nat.le_of_ble_eq_true rfl⟩) (fun H locs hP hD hS => ?_)
  refine lv_if_ne (tgt := 11) hx hb dX10_pairs_6 (by decide) (fun c_3 => ?_) (fun c_3 => ?_)
  · have hF := it_neg c_3 hF
    refine lv_aload_n hx hb dX10_pairs_11 rfl (lv_at hl 0 rfl) ?_
    refine va_get (D := D) (ci := 9) (v := .ref (g_t_echoes 0)) (C := RX10) (T := TX10) (N := 14) hx hb hts iw_X10_pairs_X10 hown hK hP 0 rfl rfl 8 (by decide) (hts _ fl_X10_pairs_55) (fun _ h9 => h9) rfl dX10_pairs_12 ?_
    refine lv_aload_n hx hb dX10_pairs_15 rfl (lv_at hl 0 rfl) ?_
    refine va_get (D := D) (ci := 9) (v := .ref (g_t_radar 0)) (C := RX10) (T := TX10) (N := 14) hx hb hts iw_X10_pairs_X10 hown hK hP 0 rfl rfl 0 (by decide) (hts _ fl_X10_pairs_10) (fun _ h9 => h9) rfl dX10_pairs_16 ?_
    obtain ⟨r_4, hc_5, hF⟩ := bn_some hF
    refine xc_v (wn := (w_X10_pairs K g_t g_t_radar g_t_draft g_t_text g_t_reader g_t_history g_t_echoes g_t_tracks g_t_dwelling g_t_chooser g_t_adviser t_radar_gapCount t_radar_targetCount t_radar_lookCount t_radar_time t_radar_gone t_radar_gaps t_radar_settings t_radar_spots t_radar_speeds t_radar_strengths t_echoes_shownCount r_4.1 r_4.2 t_echoes_hitBits)) hP hD hS C0.2.2.1 [7, 8, 9, 1, 2, 3, 4, 5, 6] [0, 10] [0, 5, 6, 7, 8, 9, 10, 2, 3, 4, 1] rfl rfl (by decide) (by decide) rfl (by decide) (va_runV (As := [.ref (g_t_radar 0)]) (rest := []) C0.1 (c_X3_listen l D K g_t_echoes g_t_radar t_echoes_shownCount t_echoes_targets t_echoes_loud t_radar_gapCount t_radar_targetCount t_radar_lookCount t_radar_time t_radar_gone t_radar_gaps t_radar_settings t_radar_spots t_radar_speeds t_radar_strengths r_4 hc_5 H.size) (cwV 1 hts gX10_pairs_X3_listen rfl rfl rfl (by decide +kernel) ⟨Nat.le_of_ble_eq_true rfl, Nat.le_of_ble_eq_true rfl⟩) (xp_V C0.2 hP hD hS [7, 8, 9, 1, 2, 3, 4, 5, 6] rfl (by decide) 3 0 rfl rfl rfl) rfl rfl hl.1 rfl (lv_room (Nat.le_of_ble_eq_true rfl)) dX10_pairs_19 ⟨Nat.le_of_ble_eq_true rfl, Nat.le_of_ble_eq_true rfl⟩) (fun H locs hP hD hS => ?_)
    refine lv_iload_n hx hb dX10_pairs_22 rfl (lv_at hl 1 rfl) ?_
    refine lv_if_ne (tgt := 40) hx hb dX10_pairs_23 (by decide) (fun c_6 => ?_) (fun c_6 => ?_)
    · have hF := it_neg c_6 hF
      refine lv_aload_n hx hb dX10_pairs_40 rfl (lv_at hl 0 rfl) ?_
      refine va_get (D := D) (ci := 9) (v := .ref (g_t_echoes 0)) (C := RX10) (T := TX10) (N := 14) hx hb hts iw_X10_pairs_X10 hown hK hP 0 rfl rfl 8 (by decide) (hts _ fl_X10_pairs_55) (fun _ h9 => h9) rfl dX10_pairs_41 ?_
      refine lv_aload_n hx hb dX10_pairs_44 rfl (lv_at hl 0 rfl) ?_
      refine va_get (D := D) (ci := 9) (v := .ref (g_t_radar 0)) (C := RX10) (T := TX10) (N := 14) hx hb hts iw_X10_pairs_X10 hown hK hP 0 rfl rfl 0 (by decide) (hts _ fl_X10_pairs_10) (fun _ h9 => h9) rfl dX10_pairs_45 ?_
      refine lv_iload_n hx hb dX10_pairs_48 rfl (lv_at hl 1 rfl) ?_
      refine lv_iconst (v := 2) hx hb dX10_pairs_49 (by decide) ?_
      refine lv_icmp_ne (tgt := 57) hx hb dX10_pairs_50 (by decide) (fun c_7 => ?_) (fun c_7 => ?_)
      · have hF := it_neg c_7 hF
        refine lv_iconst (v := 0) hx hb dX10_pairs_57 (by decide) ?_
        exact w_X10_pairs_58 C0 HR r_4.1 r_4.2 t_echoes_hitBits (0 : Int32) H locs ls hP hD hS (lv_sub hl [] rfl) hF
      · have hF := it_pos c_7 hF
        refine lv_iconst (v := 1) hx hb dX10_pairs_53 (by decide) ?_
        refine lv_goto (tgt := 58) hx hb dX10_pairs_54 (by decide) ?_
        exact w_X10_pairs_58 C0 HR r_4.1 r_4.2 t_echoes_hitBits (1 : Int32) H locs ls hP hD hS (lv_sub hl [] rfl) hF
    · have hF := it_pos c_6 hF
      refine lv_aload_n hx hb dX10_pairs_26 rfl (lv_at hl 0 rfl) ?_
      refine va_get (D := D) (ci := 9) (v := .ref (g_t_echoes 0)) (C := RX10) (T := TX10) (N := 14) hx hb hts iw_X10_pairs_X10 hown hK hP 0 rfl rfl 8 (by decide) (hts _ fl_X10_pairs_55) (fun _ h9 => h9) rfl dX10_pairs_27 ?_
      refine lv_aload_n hx hb dX10_pairs_30 rfl (lv_at hl 0 rfl) ?_
      refine va_get (D := D) (ci := 9) (v := .ref (g_t_radar 0)) (C := RX10) (T := TX10) (N := 14) hx hb hts iw_X10_pairs_X10 hown hK hP 0 rfl rfl 0 (by decide) (hts _ fl_X10_pairs_10) (fun _ h9 => h9) rfl dX10_pairs_31 ?_
      obtain ⟨r_8, hc_9, hF⟩ := bn_some hF
      refine xc_i (wn := (w_X10_pairs K g_t g_t_radar g_t_draft g_t_text g_t_reader g_t_history g_t_echoes g_t_tracks g_t_dwelling g_t_chooser g_t_adviser t_radar_gapCount t_radar_targetCount t_radar_lookCount t_radar_time t_radar_gone t_radar_gaps t_radar_settings t_radar_spots t_radar_speeds t_radar_strengths t_echoes_shownCount r_4.1 r_4.2 t_echoes_hitBits)) hP hD hS C0.2.2.1 [7, 9, 1, 2, 3] [0, 4, 5, 6, 8, 10] [0, 8, 9, 10, 1, 2, 3, 6, 4, 7, 5] rfl rfl (by decide) (by decide) rfl (by decide) (va_runV (As := [.ref (g_t_radar 0)]) (rest := []) C0.1 (c_X3_countPairings l D K g_t_echoes g_t_radar t_echoes_shownCount r_4.2 t_radar_gapCount t_radar_targetCount t_radar_lookCount t_radar_time t_radar_gone t_radar_gaps t_radar_settings r_8 hc_9 H.size) (cwV 1 hts gX10_pairs_X3_countPairings rfl rfl rfl (by decide +kernel) ⟨Nat.le_of_ble_eq_true rfl, Nat.le_of_ble_eq_true rfl⟩) (xp_V C0.2 hP hD hS [7, 9, 1, 2, 3] rfl (by decide) 3 0 rfl rfl rfl) rfl rfl hl.1 rfl (lv_room (Nat.le_of_ble_eq_true rfl)) dX10_pairs_34 ⟨Nat.le_of_ble_eq_true rfl, Nat.le_of_ble_eq_true rfl⟩) (fun H locs hP hD hS => ?_)
      refine lv_goto (tgt := 61) hx hb dX10_pairs_37 (by decide) ?_
      obtain rfl := Option.some.inj hF
      exact HR 61 H locs ls dX10_pairs_61 hP hD hS
  · have hF := it_pos c_3 hF
    refine lv_iconst (v := (-1)) hx hb dX10_pairs_9 (by decide) ?_
    obtain rfl := Option.some.inj hF
    exact HR 10 H locs ls dX10_pairs_10 hP hD hS

/-! StaggerRadar.Speeds.leastUnshifted(LStaggerRadar$Radar;)I -/
abbrev rmX7_leastUnshifted : Room := { frames := 1, cells := 0, slots := 0, locals := 25 }
theorem fl_X7_leastUnshifted_9 : Cond.fieldLink RX7 9 "StaggerRadar$Radar" "gapCount" "I" ∈ wsX7_leastUnshifted := by decide +kernel
theorem fl_X7_leastUnshifted_15 : Cond.fieldLink RX7 15 "StaggerRadar$Radar" "gaps" "[I" ∈ wsX7_leastUnshifted := by decide +kernel
theorem fl_X7_leastUnshifted_23 : Cond.fieldLink RX7 23 "StaggerRadar$Radar" "settings" "[I" ∈ wsX7_leastUnshifted := by decide +kernel
theorem iw_X7_leastUnshifted_X5 : ∀ w ∈ u_ws RX5 TX5 13, w ∈ wsX7_leastUnshifted := by decide +kernel
abbrev w_X7_leastUnshifted (K : Nat → ClassId) (g_p0 : Nat → Nat) (p0_gapCount : Int32) (p0_targetCount : Int32) (p0_lookCount : Int32) (p0_time : Int32) (p0_gone : Int32) (p0_gaps : Nat → Int32) (p0_settings : Nat → Int32) : va_W := [((g_p0 0), .inr (5, [.ref (g_p0 1), .ref (g_p0 2), .ref (g_p0 3), .ref (g_p0 4), .ref (g_p0 5), .ref (g_p0 6), .ref (g_p0 7), .ref (g_p0 8), .int p0_gapCount, .int p0_targetCount, .int p0_lookCount, .int p0_time, .int p0_gone])), ((g_p0 1), .inl (K 0, 5, .inl p0_gaps)), ((g_p0 2), .inl (K 0, 7, .inl p0_settings))]
def J_X7_leastUnshifted_34 (p0_gapCount : Int32) (p0_gaps : Nat → Int32) (p0_settings : Nat → Int32) (x1 : Int32) : Option (Int32) :=
  if x1 ≤ (0 : Int32) then (some (1 : Int32)) else (gd_ (decide (¬ x1 = 0)) (some ((p0_settings 0) / x1)))
set_option maxHeartbeats 4000000 in
set_option maxRecDepth 100000 in
theorem w_X7_leastUnshifted_34 {p : Program} {l : Launch} {e : Env} {s : State} {m : MethodId} {args : Array Value} {below : List Frame} {meth : Method} {c : Code} {D : va_G} {K : Nat → ClassId} {A : Nat → Prop} {Q : State → Prop} (C0 : cx_ p s m args c cX7_leastUnshifted 3 RX7 wsX7_leastUnshifted D K A) {g_p0 : Nat → Nat} {p0_gapCount : Int32} {p0_targetCount : Int32} {p0_lookCount : Int32} {p0_time : Int32} {p0_gone : Int32} {p0_gaps : Nat → Int32} {p0_settings : Nat → Int32} {res : Int32} (HR : ∀ (pc : Nat) (H : Heap) (locs : List Loc) (ls : Array Slot), decode cX7_leastUnshifted pc = .ok (.ireturn, 1) → va_P D vwCl (w_X7_leastUnshifted K g_p0 p0_gapCount p0_targetCount p0_lookCount p0_time p0_gone p0_gaps p0_settings) H → va_D A (w_X7_leastUnshifted K g_p0 p0_gapCount p0_targetCount p0_lookCount p0_time p0_gone p0_gaps p0_settings) → va_S A s.heap H locs → W p l e rmX7_leastUnshifted s m args below meth c H locs 0 0 Q (F0 m pc ls [.int res]))  :
    ∀ (x1 : Int32) (H : Heap) (locs : List Loc) (ls : Array Slot), va_P D vwCl (w_X7_leastUnshifted K g_p0 p0_gapCount p0_targetCount p0_lookCount p0_time p0_gone p0_gaps p0_settings) H → va_D A (w_X7_leastUnshifted K g_p0 p0_gapCount p0_targetCount p0_lookCount p0_time p0_gone p0_gaps p0_settings) → va_S A s.heap H locs → lv_has ls 3 [(0, .ref (g_p0 0)), (1, .int x1)] → J_X7_leastUnshifted_34 p0_gapCount p0_gaps p0_settings x1 = some res → W p l e rmX7_leastUnshifted s m args below meth c H locs 0 0 Q (F0 m 34 ls []) := by
  obtain ⟨⟨hx, hb, hml, hown, hts⟩, hK, -⟩ := id C0
  intro x1 H locs ls hP hD hS hl hF
  unfold J_X7_leastUnshifted_34 at hF
  refine lv_iload_n hx hb dX7_leastUnshifted_34 rfl (lv_at hl 1 rfl) ?_
  refine lv_if_le (tgt := 49) hx hb dX7_leastUnshifted_35 (by decide) (fun c_1 => ?_) (fun c_1 => ?_)
  · have hF := it_pos c_1 hF
    refine lv_iconst (v := 1) hx hb dX7_leastUnshifted_49 (by decide) ?_
    obtain rfl := Option.some.inj hF
    exact HR 50 H locs ls dX7_leastUnshifted_50 hP hD hS
  · have hF := it_neg c_1 hF
    refine lv_aload_n hx hb dX7_leastUnshifted_38 rfl (lv_at hl 0 rfl) ?_
    refine va_get (D := D) (ci := 5) (v := .ref (g_p0 2)) (C := RX5) (T := TX5) (N := 13) hx hb hts iw_X7_leastUnshifted_X5 hown hK hP 0 rfl rfl 1 (by decide) (hts _ fl_X7_leastUnshifted_23) (fun _ h9 => h9) rfl dX7_leastUnshifted_39 ?_
    refine lv_iconst (v := 0) hx hb dX7_leastUnshifted_42 (by decide) ?_
    refine xl_i (f := p0_settings) hx hb hK hP 2 0 rfl rfl (k := 0) (by decide) (in_v (by decide)) dX7_leastUnshifted_43 ?_
    refine lv_iload_n hx hb dX7_leastUnshifted_44 rfl (lv_at hl 1 rfl) ?_
    obtain ⟨hg_2, hF⟩ := gd_some hF
    refine lv_idiv hx hb dX7_leastUnshifted_45 (ne_of hg_2) ?_
    refine lv_goto (tgt := 50) hx hb dX7_leastUnshifted_46 (by decide) ?_
    obtain rfl := Option.some.inj hF
    exact HR 50 H locs ls dX7_leastUnshifted_50 hP hD hS
def L_X7_leastUnshifted_9 (p0_gapCount : Int32) (p0_gaps : Nat → Int32) (p0_settings : Nat → Int32) : Nat → Int32 → Int32 → Option (Int32)
  | 0, _, _ => none
  | n_ + 1, x1, x2 =>
    if p0_gapCount ≤ x2 then (J_X7_leastUnshifted_34 p0_gapCount p0_gaps p0_settings x1) else (gd_ (in_b x2 5) ((F_X10_commonDivisor x1 (p0_gaps (x2).toNatClampNeg)).bind fun r_3 => (L_X7_leastUnshifted_9 p0_gapCount p0_gaps p0_settings n_ r_3 (x2 + (1 : Int32)))))
set_option maxHeartbeats 4000000 in
set_option maxRecDepth 100000 in
theorem w_X7_leastUnshifted_9 {p : Program} {l : Launch} {e : Env} {s : State} {m : MethodId} {args : Array Value} {below : List Frame} {meth : Method} {c : Code} {D : va_G} {K : Nat → ClassId} {A : Nat → Prop} {Q : State → Prop} (C0 : cx_ p s m args c cX7_leastUnshifted 3 RX7 wsX7_leastUnshifted D K A) {g_p0 : Nat → Nat} {p0_gapCount : Int32} {p0_targetCount : Int32} {p0_lookCount : Int32} {p0_time : Int32} {p0_gone : Int32} {p0_gaps : Nat → Int32} {p0_settings : Nat → Int32} {res : Int32} (HR : ∀ (pc : Nat) (H : Heap) (locs : List Loc) (ls : Array Slot), decode cX7_leastUnshifted pc = .ok (.ireturn, 1) → va_P D vwCl (w_X7_leastUnshifted K g_p0 p0_gapCount p0_targetCount p0_lookCount p0_time p0_gone p0_gaps p0_settings) H → va_D A (w_X7_leastUnshifted K g_p0 p0_gapCount p0_targetCount p0_lookCount p0_time p0_gone p0_gaps p0_settings) → va_S A s.heap H locs → W p l e rmX7_leastUnshifted s m args below meth c H locs 0 0 Q (F0 m pc ls [.int res]))  :
    ∀ (n_ : Nat) (x1 : Int32) (x2 : Int32) (H : Heap) (locs : List Loc) (ls : Array Slot), va_P D vwCl (w_X7_leastUnshifted K g_p0 p0_gapCount p0_targetCount p0_lookCount p0_time p0_gone p0_gaps p0_settings) H → va_D A (w_X7_leastUnshifted K g_p0 p0_gapCount p0_targetCount p0_lookCount p0_time p0_gone p0_gaps p0_settings) → va_S A s.heap H locs → lv_has ls 3 [(0, .ref (g_p0 0)), (1, .int x1), (2, .int x2)] → L_X7_leastUnshifted_9 p0_gapCount p0_gaps p0_settings n_ x1 x2 = some res → W p l e rmX7_leastUnshifted s m args below meth c H locs 0 0 Q (F0 m 9 ls []) := by
  obtain ⟨⟨hx, hb, hml, hown, hts⟩, hK, -⟩ := id C0
  intro n_
  induction n_ with
  | zero =>
    intro x1 x2 H locs ls hP hD hS hl hF
    exact no_s (show (none : Option (Int32)) = some res from hF)
  | succ n_ ih =>
    intro x1 x2 H locs ls hP hD hS hl hF
    rw [L_X7_leastUnshifted_9] at hF
    refine lv_iload_n hx hb dX7_leastUnshifted_9 rfl (lv_at hl 2 rfl) ?_
    refine lv_aload_n hx hb dX7_leastUnshifted_10 rfl (lv_at hl 0 rfl) ?_
    refine va_get (D := D) (ci := 5) (v := .int p0_gapCount) (C := RX5) (T := TX5) (N := 13) hx hb hts iw_X7_leastUnshifted_X5 hown hK hP 0 rfl rfl 8 (by decide) (hts _ fl_X7_leastUnshifted_9) (fun _ h9 => h9) rfl dX7_leastUnshifted_11 ?_
    refine lv_icmp_ge (tgt := 34) hx hb dX7_leastUnshifted_14 (by decide) (fun c_1 => ?_) (fun c_1 => ?_)
    · have hF := it_pos c_1 hF
      exact w_X7_leastUnshifted_34 C0 HR x1 H locs ls hP hD hS (lv_sub hl [0, 1] rfl) hF
    · have hF := it_neg c_1 hF
      refine lv_iload_n hx hb dX7_leastUnshifted_17 rfl (lv_at hl 1 rfl) ?_
      refine lv_aload_n hx hb dX7_leastUnshifted_18 rfl (lv_at hl 0 rfl) ?_
      refine va_get (D := D) (ci := 5) (v := .ref (g_p0 1)) (C := RX5) (T := TX5) (N := 13) hx hb hts iw_X7_leastUnshifted_X5 hown hK hP 0 rfl rfl 0 (by decide) (hts _ fl_X7_leastUnshifted_15) (fun _ h9 => h9) rfl dX7_leastUnshifted_19 ?_
      refine lv_iload_n hx hb dX7_leastUnshifted_22 rfl (lv_at hl 2 rfl) ?_
      obtain ⟨hg_2, hF⟩ := gd_some hF
      refine xl_i (f := p0_gaps) hx hb hK hP 1 0 rfl rfl rfl (in_v hg_2) dX7_leastUnshifted_23 ?_
      obtain ⟨r_3, hc_4, hF⟩ := bn_some hF
      refine xc_i (wn := (w_X7_leastUnshifted K g_p0 p0_gapCount p0_targetCount p0_lookCount p0_time p0_gone p0_gaps p0_settings)) hP hD hS C0.2.2.1 [] [0, 1, 2] [0, 1, 2] rfl rfl (by decide) (by decide) rfl (by decide) (va_runSN (host := "StaggerRadar") (As := [.int x1, .int (p0_gaps (x2).toNatClampNeg)]) (rest := []) C0.1 (c_X10_commonDivisor l D K x1 (p0_gaps (x2).toNatClampNeg) r_3 hc_4 H.size) ⟨va_cnB 2 hts gX7_leastUnshifted_X10_commonDivisor_n41 rfl rfl rfl (C0.2.2.2.1.1 ("StaggerRadar$Speeds", 41, ⟨"StaggerRadar", "commonDivisor", "(II)I"⟩, "StaggerRadar") (by decide +kernel)) (hts (.initialized RX10) (by decide +kernel)) (by decide +kernel) ⟨Nat.le_of_ble_eq_true rfl, Nat.le_of_ble_eq_true rfl⟩, hts (.static yX10_commonDivisor) (by decide +kernel), trivial⟩ (xp_S C0.2 hP hD hS [] rfl (by decide)) rfl rfl hl.1 rfl (lv_room (Nat.le_of_ble_eq_true rfl)) dX7_leastUnshifted_24 ⟨Nat.le_of_ble_eq_true rfl, Nat.le_of_ble_eq_true rfl⟩) (fun H locs hP hD hS => ?_)
      refine lv_istore_n (lv' := [(1, .int r_3), (0, .ref (g_p0 0)), (2, .int x2)]) hx hb dX7_leastUnshifted_27 rfl hl (by decide) rfl (fun ls hl => ?_)
      refine lv_iinc (v := (x2 + (1 : Int32))) (lv' := [(2, .int (x2 + (1 : Int32))), (1, .int r_3), (0, .ref (g_p0 0))]) hx hb dX7_leastUnshifted_28 hl (k := 2) rfl (congrArg (fun z => x2 + z) (by decide)) (by decide) rfl (fun ls hl => ?_)
      refine lv_goto (tgt := 9) hx hb dX7_leastUnshifted_31 (by decide) ?_
      exact ih r_3 (x2 + (1 : Int32)) H locs ls hP hD hS (lv_sub hl [2, 1, 0] rfl) hF
def F_X7_leastUnshifted (p0_gapCount : Int32) (p0_gaps : Nat → Int32) (p0_settings : Nat → Int32) : Option (Int32) :=
  L_X7_leastUnshifted_9 p0_gapCount p0_gaps p0_settings fu_ (p0_settings 0) (0 : Int32)
set_option maxHeartbeats 4000000 in
set_option maxRecDepth 100000 in
theorem c_X7_leastUnshifted (l : Launch) (D : va_G) (K : Nat → ClassId) (g_p0 : Nat → Nat) (p0_gapCount : Int32) (p0_targetCount : Int32) (p0_lookCount : Int32) (p0_time : Int32) (p0_gone : Int32) (p0_gaps : Nat → Int32) (p0_settings : Nat → Int32) (res : Int32) (hF : F_X7_leastUnshifted p0_gapCount p0_gaps p0_settings = some res) :
    Mi_ l yX7_leastUnshifted wsX7_leastUnshifted rmX7_leastUnshifted D K [.ref (g_p0 0)] (w_X7_leastUnshifted K g_p0 p0_gapCount p0_targetCount p0_lookCount p0_time p0_gone p0_gaps p0_settings) (w_X7_leastUnshifted K g_p0 p0_gapCount p0_targetCount p0_lookCount p0_time p0_gone p0_gaps p0_settings) (res) := by
  refine en_i (cc := cX7_leastUnshifted) (maxL := 3) (own := RX7) (by decide) rfl rfl (Nat.le_of_ble_eq_true rfl) ?_
  intro p e s m args below meth c A Q H locs ls C0 hP hD hS hl HR
  obtain ⟨⟨hx, hb, hml, hown, hts⟩, hK, -⟩ := id C0
  have hl : lv_has ls 3 [(0, .ref (g_p0 0))] := hl
  unfold F_X7_leastUnshifted at hF
  refine lv_aload_n hx hb dX7_leastUnshifted_0 rfl (lv_at hl 0 rfl) ?_
  refine va_get (D := D) (ci := 5) (v := .ref (g_p0 2)) (C := RX5) (T := TX5) (N := 13) hx hb hts iw_X7_leastUnshifted_X5 hown hK hP 0 rfl rfl 1 (by decide) (hts _ fl_X7_leastUnshifted_23) (fun _ h9 => h9) rfl dX7_leastUnshifted_1 ?_
  refine lv_iconst (v := 0) hx hb dX7_leastUnshifted_4 (by decide) ?_
  refine xl_i (f := p0_settings) hx hb hK hP 2 0 rfl rfl (k := 0) (by decide) (in_v (by decide)) dX7_leastUnshifted_5 ?_
  refine lv_istore_n (lv' := [(1, .int (p0_settings 0)), (0, .ref (g_p0 0))]) hx hb dX7_leastUnshifted_6 rfl hl (by decide) rfl (fun ls hl => ?_)
  refine lv_iconst (v := 0) hx hb dX7_leastUnshifted_7 (by decide) ?_
  refine lv_istore_n (lv' := [(2, .int (0 : Int32)), (1, .int (p0_settings 0)), (0, .ref (g_p0 0))]) hx hb dX7_leastUnshifted_8 rfl hl (by decide) rfl (fun ls hl => ?_)
  exact w_X7_leastUnshifted_9 C0 HR fu_ (p0_settings 0) (0 : Int32) H locs ls hP hD hS (lv_sub hl [2, 1, 0] rfl) hF

/-! StaggerRadar.period()I -/
abbrev rmX10_period : Room := { frames := 2, cells := 0, slots := 0, locals := 47 }
theorem fl_X10_period_10 : Cond.fieldLink RX10 10 "StaggerRadar" "radar" "LStaggerRadar$Radar;" ∈ wsX10_period := by decide +kernel
theorem iw_X10_period_X10 : ∀ w ∈ u_ws RX10 TX10 14, w ∈ wsX10_period := by decide +kernel
theorem iw_X10_period_X5 : ∀ w ∈ u_ws RX5 TX5 13, w ∈ wsX10_period := by decide +kernel
abbrev w_X10_period (K : Nat → ClassId) (g_t : Nat → Nat) (g_t_radar : Nat → Nat) (g_t_draft : Nat → Nat) (g_t_text : Nat → Nat) (g_t_reader : Nat → Nat) (g_t_history : Nat → Nat) (g_t_echoes : Nat → Nat) (g_t_tracks : Nat → Nat) (g_t_dwelling : Nat → Nat) (g_t_chooser : Nat → Nat) (g_t_adviser : Nat → Nat) (t_radar_gapCount : Int32) (t_radar_targetCount : Int32) (t_radar_lookCount : Int32) (t_radar_time : Int32) (t_radar_gone : Int32) (t_radar_gaps : Nat → Int32) (t_radar_settings : Nat → Int32) : va_W := [((g_t 0), .inr (9, [.ref (g_t_radar 0), .ref (g_t_draft 0), .ref (g_t_text 0), .ref (g_t_reader 0), .ref (g_t_history 0), .ref (g_t 6), .ref (g_t 7), .ref (g_t 8), .ref (g_t_echoes 0), .ref (g_t_tracks 0), .ref (g_t_dwelling 0), .ref (g_t_chooser 0), .ref (g_t_adviser 0), .ref (g_t 14)])), ((g_t_radar 0), .inr (5, [.ref (g_t_radar 1), .ref (g_t_radar 2), .ref (g_t_radar 3), .ref (g_t_radar 4), .ref (g_t_radar 5), .ref (g_t_radar 6), .ref (g_t_radar 7), .ref (g_t_radar 8), .int t_radar_gapCount, .int t_radar_targetCount, .int t_radar_lookCount, .int t_radar_time, .int t_radar_gone])), ((g_t_radar 1), .inl (K 0, 5, .inl t_radar_gaps)), ((g_t_radar 2), .inl (K 0, 7, .inl t_radar_settings))]
def F_X10_period (t_radar_gapCount : Int32) (t_radar_gaps : Nat → Int32) (t_radar_settings : Nat → Int32) : Option (Int32) :=
  (F_X7_leastUnshifted t_radar_gapCount t_radar_gaps t_radar_settings).bind fun r_1 => (some r_1)
set_option maxHeartbeats 4000000 in
set_option maxRecDepth 100000 in
theorem c_X10_period (l : Launch) (D : va_G) (K : Nat → ClassId) (g_t : Nat → Nat) (g_t_radar : Nat → Nat) (g_t_draft : Nat → Nat) (g_t_text : Nat → Nat) (g_t_reader : Nat → Nat) (g_t_history : Nat → Nat) (g_t_echoes : Nat → Nat) (g_t_tracks : Nat → Nat) (g_t_dwelling : Nat → Nat) (g_t_chooser : Nat → Nat) (g_t_adviser : Nat → Nat) (t_radar_gapCount : Int32) (t_radar_targetCount : Int32) (t_radar_lookCount : Int32) (t_radar_time : Int32) (t_radar_gone : Int32) (t_radar_gaps : Nat → Int32) (t_radar_settings : Nat → Int32) (res : Int32) (hF : F_X10_period t_radar_gapCount t_radar_gaps t_radar_settings = some res) :
    Mi_ l yX10_period wsX10_period rmX10_period D K [.ref (g_t 0)] (w_X10_period K g_t g_t_radar g_t_draft g_t_text g_t_reader g_t_history g_t_echoes g_t_tracks g_t_dwelling g_t_chooser g_t_adviser t_radar_gapCount t_radar_targetCount t_radar_lookCount t_radar_time t_radar_gone t_radar_gaps t_radar_settings) (w_X10_period K g_t g_t_radar g_t_draft g_t_text g_t_reader g_t_history g_t_echoes g_t_tracks g_t_dwelling g_t_chooser g_t_adviser t_radar_gapCount t_radar_targetCount t_radar_lookCount t_radar_time t_radar_gone t_radar_gaps t_radar_settings) (res) := by
  refine en_i (cc := cX10_period) (maxL := 1) (own := RX10) (by decide) rfl rfl (Nat.le_of_ble_eq_true rfl) ?_
  intro p e s m args below meth c A Q H locs ls C0 hP hD hS hl HR
  obtain ⟨⟨hx, hb, hml, hown, hts⟩, hK, -⟩ := id C0
  have hl : lv_has ls 1 [(0, .ref (g_t 0))] := hl
  unfold F_X10_period at hF
  refine lv_aload_n hx hb dX10_period_0 rfl (lv_at hl 0 rfl) ?_
  refine va_get (D := D) (ci := 9) (v := .ref (g_t_radar 0)) (C := RX10) (T := TX10) (N := 14) hx hb hts iw_X10_period_X10 hown hK hP 0 rfl rfl 0 (by decide) (hts _ fl_X10_period_10) (fun _ h9 => h9) rfl dX10_period_1 ?_
  obtain ⟨r_1, hc_2, hF⟩ := bn_some hF
  refine xc_i (wn := (w_X10_period K g_t g_t_radar g_t_draft g_t_text g_t_reader g_t_history g_t_echoes g_t_tracks g_t_dwelling g_t_chooser g_t_adviser t_radar_gapCount t_radar_targetCount t_radar_lookCount t_radar_time t_radar_gone t_radar_gaps t_radar_settings)) hP hD hS C0.2.2.1 [1, 2, 3] [0] [0, 1, 2, 3] rfl rfl (by decide) (by decide) rfl (by decide) (va_runS (As := [.ref (g_t_radar 0)]) (rest := []) C0.1 (c_X7_leastUnshifted l D K g_t_radar t_radar_gapCount t_radar_targetCount t_radar_lookCount t_radar_time t_radar_gone t_radar_gaps t_radar_settings r_1 hc_2 H.size) (va_cwS 1 hts gX10_period_X7_leastUnshifted rfl rfl rfl (by decide +kernel) ⟨Nat.le_of_ble_eq_true rfl, Nat.le_of_ble_eq_true rfl⟩) (xp_S C0.2 hP hD hS [1, 2, 3] rfl (by decide)) rfl rfl hl.1 rfl (lv_room (Nat.le_of_ble_eq_true rfl)) dX10_period_4 ⟨Nat.le_of_ble_eq_true rfl, Nat.le_of_ble_eq_true rfl⟩) (fun H locs hP hD hS => ?_)
  obtain rfl := Option.some.inj hF
  exact HR 7 H locs ls dX10_period_7 hP hD hS

/-! StaggerRadar.picture(IZ)I -/
abbrev rmX10_picture : Room := { frames := 5, cells := 0, slots := 0, locals := 115 }
theorem fl_X10_picture_10 : Cond.fieldLink RX10 10 "StaggerRadar" "radar" "LStaggerRadar$Radar;" ∈ wsX10_picture := by decide +kernel
theorem fl_X10_picture_55 : Cond.fieldLink RX10 55 "StaggerRadar" "echoes" "LStaggerRadar$Echoes;" ∈ wsX10_picture := by decide +kernel
theorem fl_X10_picture_190 : Cond.fieldLink RX10 190 "StaggerRadar$Echoes" "shownCount" "I" ∈ wsX10_picture := by decide +kernel
theorem fl_X10_picture_199 : Cond.fieldLink RX10 199 "StaggerRadar$Echoes" "shown" "[I" ∈ wsX10_picture := by decide +kernel
theorem fl_X10_picture_307 : Cond.fieldLink RX10 307 "StaggerRadar$Echoes" "took" "[I" ∈ wsX10_picture := by decide +kernel
theorem iw_X10_picture_X10 : ∀ w ∈ u_ws RX10 TX10 14, w ∈ wsX10_picture := by decide +kernel
theorem iw_X10_picture_X3 : ∀ w ∈ u_ws RX3 TX3 6, w ∈ wsX10_picture := by decide +kernel
theorem iw_X10_picture_X5 : ∀ w ∈ u_ws RX5 TX5 13, w ∈ wsX10_picture := by decide +kernel
abbrev w_X10_picture (K : Nat → ClassId) (g_t : Nat → Nat) (g_t_radar : Nat → Nat) (g_t_draft : Nat → Nat) (g_t_text : Nat → Nat) (g_t_reader : Nat → Nat) (g_t_history : Nat → Nat) (g_t_echoes : Nat → Nat) (g_t_tracks : Nat → Nat) (g_t_dwelling : Nat → Nat) (g_t_chooser : Nat → Nat) (g_t_adviser : Nat → Nat) (t_radar_gapCount : Int32) (t_radar_targetCount : Int32) (t_radar_lookCount : Int32) (t_radar_time : Int32) (t_radar_gone : Int32) (t_radar_gaps : Nat → Int32) (t_radar_settings : Nat → Int32) (t_radar_spots : Nat → Int32) (t_radar_speeds : Nat → Int32) (t_radar_strengths : Nat → Int32) (t_echoes_shownCount : Int32) (t_echoes_targets : Nat → Int32) (t_echoes_loud : Nat → Int32) (t_echoes_hitBits : Nat → Int32) (t_echoes_shown : Nat → Int32) (t_echoes_took : Nat → Int32) : va_W := [((g_t 0), .inr (9, [.ref (g_t_radar 0), .ref (g_t_draft 0), .ref (g_t_text 0), .ref (g_t_reader 0), .ref (g_t_history 0), .ref (g_t 6), .ref (g_t 7), .ref (g_t 8), .ref (g_t_echoes 0), .ref (g_t_tracks 0), .ref (g_t_dwelling 0), .ref (g_t_chooser 0), .ref (g_t_adviser 0), .ref (g_t 14)])), ((g_t_radar 0), .inr (5, [.ref (g_t_radar 1), .ref (g_t_radar 2), .ref (g_t_radar 3), .ref (g_t_radar 4), .ref (g_t_radar 5), .ref (g_t_radar 6), .ref (g_t_radar 7), .ref (g_t_radar 8), .int t_radar_gapCount, .int t_radar_targetCount, .int t_radar_lookCount, .int t_radar_time, .int t_radar_gone])), ((g_t_radar 1), .inl (K 0, 5, .inl t_radar_gaps)), ((g_t_radar 2), .inl (K 0, 7, .inl t_radar_settings)), ((g_t_radar 3), .inl (K 0, 8, .inl t_radar_spots)), ((g_t_radar 4), .inl (K 0, 8, .inl t_radar_speeds)), ((g_t_radar 5), .inl (K 0, 8, .inl t_radar_strengths)), ((g_t_echoes 0), .inr (3, [.ref (g_t_echoes 1), .ref (g_t_echoes 2), .ref (g_t_echoes 3), .ref (g_t_echoes 4), .ref (g_t_echoes 5), .int t_echoes_shownCount])), ((g_t_echoes 1), .inl (K 0, 300, .inl t_echoes_targets)), ((g_t_echoes 2), .inl (K 0, 300, .inl t_echoes_loud)), ((g_t_echoes 3), .inl (K 0, 1000, .inl t_echoes_hitBits)), ((g_t_echoes 4), .inl (K 0, 40, .inl t_echoes_shown)), ((g_t_echoes 5), .inl (K 0, 40, .inl t_echoes_took))]
def F_X10_picture (t_radar_gapCount : Int32) (t_radar_targetCount : Int32) (t_radar_gaps : Nat → Int32) (t_radar_settings : Nat → Int32) (t_radar_spots : Nat → Int32) (t_radar_speeds : Nat → Int32) (t_radar_strengths : Nat → Int32) (t_echoes_shownCount : Int32) (t_echoes_targets : Nat → Int32) (t_echoes_loud : Nat → Int32) (t_echoes_hitBits : Nat → Int32) (t_echoes_shown : Nat → Int32) (t_echoes_took : Nat → Int32) (x1 : Int32) (x2 : Int32) : Option (Int32 × Int32 × (Nat → Int32) × (Nat → Int32) × (Nat → Int32) × (Nat → Int32) × (Nat → Int32)) :=
  (F_X3_listen t_echoes_targets t_echoes_loud t_radar_gapCount t_radar_targetCount t_radar_gaps t_radar_settings t_radar_spots t_radar_speeds t_radar_strengths).bind fun r_1 => ((F_X3_paint t_echoes_shownCount r_1.2 t_echoes_hitBits t_echoes_shown t_echoes_took t_radar_gapCount t_radar_gaps t_radar_settings).bind fun r_3 => ((F_X10_isWithin x1 (0 : Int32) (r_3.1 - (1 : Int32))).bind fun r_5 => (if r_5 = (0 : Int32) then (some ((-1 : Int32), r_3.1, r_1.1, r_1.2, r_3.2.1, r_3.2.2.1, r_3.2.2.2)) else (if x2 = (0 : Int32) then (gd_ (in_b x1 40) (some ((r_3.2.2.1 (x1).toNatClampNeg), r_3.1, r_1.1, r_1.2, r_3.2.1, r_3.2.2.1, r_3.2.2.2))) else (gd_ (in_b x1 40) (some ((r_3.2.2.2 (x1).toNatClampNeg), r_3.1, r_1.1, r_1.2, r_3.2.1, r_3.2.2.1, r_3.2.2.2)))))))
set_option maxHeartbeats 4000000 in
set_option maxRecDepth 100000 in
theorem c_X10_picture (l : Launch) (D : va_G) (K : Nat → ClassId) (g_t : Nat → Nat) (g_t_radar : Nat → Nat) (g_t_draft : Nat → Nat) (g_t_text : Nat → Nat) (g_t_reader : Nat → Nat) (g_t_history : Nat → Nat) (g_t_echoes : Nat → Nat) (g_t_tracks : Nat → Nat) (g_t_dwelling : Nat → Nat) (g_t_chooser : Nat → Nat) (g_t_adviser : Nat → Nat) (t_radar_gapCount : Int32) (t_radar_targetCount : Int32) (t_radar_lookCount : Int32) (t_radar_time : Int32) (t_radar_gone : Int32) (t_radar_gaps : Nat → Int32) (t_radar_settings : Nat → Int32) (t_radar_spots : Nat → Int32) (t_radar_speeds : Nat → Int32) (t_radar_strengths : Nat → Int32) (t_echoes_shownCount : Int32) (t_echoes_targets : Nat → Int32) (t_echoes_loud : Nat → Int32) (t_echoes_hitBits : Nat → Int32) (t_echoes_shown : Nat → Int32) (t_echoes_took : Nat → Int32) (x1 : Int32) (x2 : Int32) (res : Int32 × Int32 × (Nat → Int32) × (Nat → Int32) × (Nat → Int32) × (Nat → Int32) × (Nat → Int32)) (hF : F_X10_picture t_radar_gapCount t_radar_targetCount t_radar_gaps t_radar_settings t_radar_spots t_radar_speeds t_radar_strengths t_echoes_shownCount t_echoes_targets t_echoes_loud t_echoes_hitBits t_echoes_shown t_echoes_took x1 x2 = some res) :
    Mi_ l yX10_picture wsX10_picture rmX10_picture D K [.ref (g_t 0), .int x1, .int x2] (w_X10_picture K g_t g_t_radar g_t_draft g_t_text g_t_reader g_t_history g_t_echoes g_t_tracks g_t_dwelling g_t_chooser g_t_adviser t_radar_gapCount t_radar_targetCount t_radar_lookCount t_radar_time t_radar_gone t_radar_gaps t_radar_settings t_radar_spots t_radar_speeds t_radar_strengths t_echoes_shownCount t_echoes_targets t_echoes_loud t_echoes_hitBits t_echoes_shown t_echoes_took) (w_X10_picture K g_t g_t_radar g_t_draft g_t_text g_t_reader g_t_history g_t_echoes g_t_tracks g_t_dwelling g_t_chooser g_t_adviser t_radar_gapCount t_radar_targetCount t_radar_lookCount t_radar_time t_radar_gone t_radar_gaps t_radar_settings t_radar_spots t_radar_speeds t_radar_strengths res.2.1 res.2.2.1 res.2.2.2.1 res.2.2.2.2.1 res.2.2.2.2.2.1 res.2.2.2.2.2.2) (res.1) := by
  refine en_i (cc := cX10_picture) (maxL := 3) (own := RX10) (by decide) rfl rfl (Nat.le_of_ble_eq_true rfl) ?_
  intro p e s m args below meth c A Q H locs ls C0 hP hD hS hl HR
  obtain ⟨⟨hx, hb, hml, hown, hts⟩, hK, -⟩ := id C0
  have hl : lv_has ls 3 [(0, .ref (g_t 0)), (1, .int x1), (2, .int x2)] := hl
  unfold F_X10_picture at hF
  refine lv_aload_n hx hb dX10_picture_0 rfl (lv_at hl 0 rfl) ?_
  refine va_get (D := D) (ci := 9) (v := .ref (g_t_echoes 0)) (C := RX10) (T := TX10) (N := 14) hx hb hts iw_X10_picture_X10 hown hK hP 0 rfl rfl 8 (by decide) (hts _ fl_X10_picture_55) (fun _ h9 => h9) rfl dX10_picture_1 ?_
  refine lv_aload_n hx hb dX10_picture_4 rfl (lv_at hl 0 rfl) ?_
  refine va_get (D := D) (ci := 9) (v := .ref (g_t_radar 0)) (C := RX10) (T := TX10) (N := 14) hx hb hts iw_X10_picture_X10 hown hK hP 0 rfl rfl 0 (by decide) (hts _ fl_X10_picture_10) (fun _ h9 => h9) rfl dX10_picture_5 ?_
  obtain ⟨r_1, hc_2, hF⟩ := bn_some hF
  refine xc_v (wn := (w_X10_picture K g_t g_t_radar g_t_draft g_t_text g_t_reader g_t_history g_t_echoes g_t_tracks g_t_dwelling g_t_chooser g_t_adviser t_radar_gapCount t_radar_targetCount t_radar_lookCount t_radar_time t_radar_gone t_radar_gaps t_radar_settings t_radar_spots t_radar_speeds t_radar_strengths t_echoes_shownCount r_1.1 r_1.2 t_echoes_hitBits t_echoes_shown t_echoes_took)) hP hD hS C0.2.2.1 [7, 8, 9, 1, 2, 3, 4, 5, 6] [0, 10, 11, 12] [0, 7, 8, 9, 10, 11, 12, 4, 5, 6, 1, 2, 3] rfl rfl (by decide) (by decide) rfl (by decide) (va_runV (As := [.ref (g_t_radar 0)]) (rest := []) C0.1 (c_X3_listen l D K g_t_echoes g_t_radar t_echoes_shownCount t_echoes_targets t_echoes_loud t_radar_gapCount t_radar_targetCount t_radar_lookCount t_radar_time t_radar_gone t_radar_gaps t_radar_settings t_radar_spots t_radar_speeds t_radar_strengths r_1 hc_2 H.size) (cwV 1 hts gX10_picture_X3_listen rfl rfl rfl (by decide +kernel) ⟨Nat.le_of_ble_eq_true rfl, Nat.le_of_ble_eq_true rfl⟩) (xp_V C0.2 hP hD hS [7, 8, 9, 1, 2, 3, 4, 5, 6] rfl (by decide) 3 0 rfl rfl rfl) rfl rfl hl.1 rfl (lv_room (Nat.le_of_ble_eq_true rfl)) dX10_picture_8 ⟨Nat.le_of_ble_eq_true rfl, Nat.le_of_ble_eq_true rfl⟩) (fun H locs hP hD hS => ?_)
  refine lv_aload_n hx hb dX10_picture_11 rfl (lv_at hl 0 rfl) ?_
  refine va_get (D := D) (ci := 9) (v := .ref (g_t_echoes 0)) (C := RX10) (T := TX10) (N := 14) hx hb hts iw_X10_picture_X10 hown hK hP 0 rfl rfl 8 (by decide) (hts _ fl_X10_picture_55) (fun _ h9 => h9) rfl dX10_picture_12 ?_
  refine lv_aload_n hx hb dX10_picture_15 rfl (lv_at hl 0 rfl) ?_
  refine va_get (D := D) (ci := 9) (v := .ref (g_t_radar 0)) (C := RX10) (T := TX10) (N := 14) hx hb hts iw_X10_picture_X10 hown hK hP 0 rfl rfl 0 (by decide) (hts _ fl_X10_picture_10) (fun _ h9 => h9) rfl dX10_picture_16 ?_
  obtain ⟨r_3, hc_4, hF⟩ := bn_some hF
  refine xc_v (wn := (w_X10_picture K g_t g_t_radar g_t_draft g_t_text g_t_reader g_t_history g_t_echoes g_t_tracks g_t_dwelling g_t_chooser g_t_adviser t_radar_gapCount t_radar_targetCount t_radar_lookCount t_radar_time t_radar_gone t_radar_gaps t_radar_settings t_radar_spots t_radar_speeds t_radar_strengths r_3.1 r_1.1 r_1.2 r_3.2.1 r_3.2.2.1 r_3.2.2.2)) hP hD hS C0.2.2.1 [7, 9, 10, 11, 12, 1, 2, 3] [0, 4, 5, 6, 8] [0, 10, 11, 12, 1, 2, 3, 5, 4, 6, 7, 8, 9] rfl rfl (by decide) (by decide) rfl (by decide) (va_runV (As := [.ref (g_t_radar 0)]) (rest := []) C0.1 (c_X3_paint l D K g_t_echoes g_t_radar t_echoes_shownCount r_1.2 t_echoes_hitBits t_echoes_shown t_echoes_took t_radar_gapCount t_radar_targetCount t_radar_lookCount t_radar_time t_radar_gone t_radar_gaps t_radar_settings r_3 hc_4 H.size) (cwV 1 hts gX10_picture_X3_paint rfl rfl rfl (by decide +kernel) ⟨Nat.le_of_ble_eq_true rfl, Nat.le_of_ble_eq_true rfl⟩) (xp_V C0.2 hP hD hS [7, 9, 10, 11, 12, 1, 2, 3] rfl (by decide) 3 0 rfl rfl rfl) rfl rfl hl.1 rfl (lv_room (Nat.le_of_ble_eq_true rfl)) dX10_picture_19 ⟨Nat.le_of_ble_eq_true rfl, Nat.le_of_ble_eq_true rfl⟩) (fun H locs hP hD hS => ?_)
  refine lv_iload_n hx hb dX10_picture_22 rfl (lv_at hl 1 rfl) ?_
  refine lv_iconst (v := 0) hx hb dX10_picture_23 (by decide) ?_
  refine lv_aload_n hx hb dX10_picture_24 rfl (lv_at hl 0 rfl) ?_
  refine va_get (D := D) (ci := 9) (v := .ref (g_t_echoes 0)) (C := RX10) (T := TX10) (N := 14) hx hb hts iw_X10_picture_X10 hown hK hP 0 rfl rfl 8 (by decide) (hts _ fl_X10_picture_55) (fun _ h9 => h9) rfl dX10_picture_25 ?_
  refine va_get (D := D) (ci := 3) (v := .int r_3.1) (C := RX3) (T := TX3) (N := 6) hx hb hts iw_X10_picture_X3 hown hK hP 7 rfl rfl 5 (by decide) (hts _ fl_X10_picture_190) (fun _ h9 => h9) rfl dX10_picture_28 ?_
  refine lv_iconst (v := 1) hx hb dX10_picture_31 (by decide) ?_
  refine lv_isub hx hb dX10_picture_32 ?_
  obtain ⟨r_5, hc_6, hF⟩ := bn_some hF
  refine xc_i (wn := (w_X10_picture K g_t g_t_radar g_t_draft g_t_text g_t_reader g_t_history g_t_echoes g_t_tracks g_t_dwelling g_t_chooser g_t_adviser t_radar_gapCount t_radar_targetCount t_radar_lookCount t_radar_time t_radar_gone t_radar_gaps t_radar_settings t_radar_spots t_radar_speeds t_radar_strengths r_3.1 r_1.1 r_1.2 r_3.2.1 r_3.2.2.1 r_3.2.2.2)) hP hD hS C0.2.2.1 [] [0, 1, 2, 3, 4, 5, 6, 7, 8, 9, 10, 11, 12] [0, 1, 2, 3, 4, 5, 6, 7, 8, 9, 10, 11, 12] rfl rfl (by decide) (by decide) rfl (by decide) (va_runS (As := [.int x1, .int (0 : Int32), .int (r_3.1 - (1 : Int32))]) (rest := []) C0.1 (c_X10_isWithin l D K x1 (0 : Int32) (r_3.1 - (1 : Int32)) r_5 hc_6 H.size) (va_cwS 3 hts gX10_picture_X10_isWithin rfl rfl rfl (by decide +kernel) ⟨Nat.le_of_ble_eq_true rfl, Nat.le_of_ble_eq_true rfl⟩) (xp_S C0.2 hP hD hS [] rfl (by decide)) rfl rfl hl.1 rfl (lv_room (Nat.le_of_ble_eq_true rfl)) dX10_picture_33 ⟨Nat.le_of_ble_eq_true rfl, Nat.le_of_ble_eq_true rfl⟩) (fun H locs hP hD hS => ?_)
  refine lv_if_ne (tgt := 41) hx hb dX10_picture_36 (by decide) (fun c_7 => ?_) (fun c_7 => ?_)
  · have hF := it_neg c_7 hF
    refine lv_iload_n hx hb dX10_picture_41 rfl (lv_at hl 2 rfl) ?_
    refine lv_if_eq (tgt := 57) hx hb dX10_picture_42 (by decide) (fun c_8 => ?_) (fun c_8 => ?_)
    · have hF := it_pos c_8 hF
      refine lv_aload_n hx hb dX10_picture_57 rfl (lv_at hl 0 rfl) ?_
      refine va_get (D := D) (ci := 9) (v := .ref (g_t_echoes 0)) (C := RX10) (T := TX10) (N := 14) hx hb hts iw_X10_picture_X10 hown hK hP 0 rfl rfl 8 (by decide) (hts _ fl_X10_picture_55) (fun _ h9 => h9) rfl dX10_picture_58 ?_
      refine va_get (D := D) (ci := 3) (v := .ref (g_t_echoes 4)) (C := RX3) (T := TX3) (N := 6) hx hb hts iw_X10_picture_X3 hown hK hP 7 rfl rfl 3 (by decide) (hts _ fl_X10_picture_199) (fun _ h9 => h9) rfl dX10_picture_61 ?_
      refine lv_iload_n hx hb dX10_picture_64 rfl (lv_at hl 1 rfl) ?_
      obtain ⟨hg_9, hF⟩ := gd_some hF
      refine xl_i (f := r_3.2.2.1) hx hb hK hP 11 0 rfl rfl rfl (in_v hg_9) dX10_picture_65 ?_
      obtain rfl := Option.some.inj hF
      exact HR 66 H locs ls dX10_picture_66 hP hD hS
    · have hF := it_neg c_8 hF
      refine lv_aload_n hx hb dX10_picture_45 rfl (lv_at hl 0 rfl) ?_
      refine va_get (D := D) (ci := 9) (v := .ref (g_t_echoes 0)) (C := RX10) (T := TX10) (N := 14) hx hb hts iw_X10_picture_X10 hown hK hP 0 rfl rfl 8 (by decide) (hts _ fl_X10_picture_55) (fun _ h9 => h9) rfl dX10_picture_46 ?_
      refine va_get (D := D) (ci := 3) (v := .ref (g_t_echoes 5)) (C := RX3) (T := TX3) (N := 6) hx hb hts iw_X10_picture_X3 hown hK hP 7 rfl rfl 4 (by decide) (hts _ fl_X10_picture_307) (fun _ h9 => h9) rfl dX10_picture_49 ?_
      refine lv_iload_n hx hb dX10_picture_52 rfl (lv_at hl 1 rfl) ?_
      obtain ⟨hg_10, hF⟩ := gd_some hF
      refine xl_i (f := r_3.2.2.2) hx hb hK hP 12 0 rfl rfl rfl (in_v hg_10) dX10_picture_53 ?_
      refine lv_goto (tgt := 66) hx hb dX10_picture_54 (by decide) ?_
      obtain rfl := Option.some.inj hF
      exact HR 66 H locs ls dX10_picture_66 hP hD hS
  · have hF := it_pos c_7 hF
    refine lv_iconst (v := (-1)) hx hb dX10_picture_39 (by decide) ?_
    obtain rfl := Option.some.inj hF
    exact HR 40 H locs ls dX10_picture_40 hP hD hS

/-! StaggerRadar.reach(II)I -/
abbrev rmX10_reach : Room := { frames := 2, cells := 0, slots := 0, locals := 47 }
theorem fl_X10_reach_10 : Cond.fieldLink RX10 10 "StaggerRadar" "radar" "LStaggerRadar$Radar;" ∈ wsX10_reach := by decide +kernel
theorem fl_X10_reach_122 : Cond.fieldLink RX10 122 "StaggerRadar$Radar" "gapCount" "I" ∈ wsX10_reach := by decide +kernel
theorem fl_X10_reach_238 : Cond.fieldLink RX10 238 "StaggerRadar$Radar" "gaps" "[I" ∈ wsX10_reach := by decide +kernel
theorem ld_X10_reach_283 : Cond.constant RX10 283 (-2147483648) ∈ wsX10_reach := by decide +kernel
theorem iw_X10_reach_X10 : ∀ w ∈ u_ws RX10 TX10 14, w ∈ wsX10_reach := by decide +kernel
theorem iw_X10_reach_X5 : ∀ w ∈ u_ws RX5 TX5 13, w ∈ wsX10_reach := by decide +kernel
abbrev w_X10_reach (K : Nat → ClassId) (g_t : Nat → Nat) (g_t_radar : Nat → Nat) (g_t_draft : Nat → Nat) (g_t_text : Nat → Nat) (g_t_reader : Nat → Nat) (g_t_history : Nat → Nat) (g_t_echoes : Nat → Nat) (g_t_tracks : Nat → Nat) (g_t_dwelling : Nat → Nat) (g_t_chooser : Nat → Nat) (g_t_adviser : Nat → Nat) (t_radar_gapCount : Int32) (t_radar_targetCount : Int32) (t_radar_lookCount : Int32) (t_radar_time : Int32) (t_radar_gone : Int32) (t_radar_gaps : Nat → Int32) : va_W := [((g_t 0), .inr (9, [.ref (g_t_radar 0), .ref (g_t_draft 0), .ref (g_t_text 0), .ref (g_t_reader 0), .ref (g_t_history 0), .ref (g_t 6), .ref (g_t 7), .ref (g_t 8), .ref (g_t_echoes 0), .ref (g_t_tracks 0), .ref (g_t_dwelling 0), .ref (g_t_chooser 0), .ref (g_t_adviser 0), .ref (g_t 14)])), ((g_t_radar 0), .inr (5, [.ref (g_t_radar 1), .ref (g_t_radar 2), .ref (g_t_radar 3), .ref (g_t_radar 4), .ref (g_t_radar 5), .ref (g_t_radar 6), .ref (g_t_radar 7), .ref (g_t_radar 8), .int t_radar_gapCount, .int t_radar_targetCount, .int t_radar_lookCount, .int t_radar_time, .int t_radar_gone])), ((g_t_radar 1), .inl (K 0, 5, .inl t_radar_gaps))]
def J_X10_reach_70 (t_radar_gapCount : Int32) (t_radar_gaps : Nat → Int32) (x2 : Int32) (x3 : Int32) : Option (Int32) :=
  if (lg_cmp ((x3).toInt64 * (x2).toInt64) (((((x3).toInt64 * (x2).toInt64)).toInt32).toInt64)) = (0 : Int32) then (some ((((x3).toInt64 * (x2).toInt64)).toInt32)) else (some (-2147483648 : Int32))
set_option maxHeartbeats 4000000 in
set_option maxRecDepth 100000 in
theorem w_X10_reach_70 {p : Program} {l : Launch} {e : Env} {s : State} {m : MethodId} {args : Array Value} {below : List Frame} {meth : Method} {c : Code} {D : va_G} {K : Nat → ClassId} {A : Nat → Prop} {Q : State → Prop} (C0 : cx_ p s m args c cX10_reach 6 RX10 wsX10_reach D K A) {g_t : Nat → Nat} {g_t_radar : Nat → Nat} {g_t_draft : Nat → Nat} {g_t_text : Nat → Nat} {g_t_reader : Nat → Nat} {g_t_history : Nat → Nat} {g_t_echoes : Nat → Nat} {g_t_tracks : Nat → Nat} {g_t_dwelling : Nat → Nat} {g_t_chooser : Nat → Nat} {g_t_adviser : Nat → Nat} {t_radar_gapCount : Int32} {t_radar_targetCount : Int32} {t_radar_lookCount : Int32} {t_radar_time : Int32} {t_radar_gone : Int32} {t_radar_gaps : Nat → Int32} {res : Int32} (HR : ∀ (pc : Nat) (H : Heap) (locs : List Loc) (ls : Array Slot), decode cX10_reach pc = .ok (.ireturn, 1) → va_P D vwCl (w_X10_reach K g_t g_t_radar g_t_draft g_t_text g_t_reader g_t_history g_t_echoes g_t_tracks g_t_dwelling g_t_chooser g_t_adviser t_radar_gapCount t_radar_targetCount t_radar_lookCount t_radar_time t_radar_gone t_radar_gaps) H → va_D A (w_X10_reach K g_t g_t_radar g_t_draft g_t_text g_t_reader g_t_history g_t_echoes g_t_tracks g_t_dwelling g_t_chooser g_t_adviser t_radar_gapCount t_radar_targetCount t_radar_lookCount t_radar_time t_radar_gone t_radar_gaps) → va_S A s.heap H locs → W p l e rmX10_reach s m args below meth c H locs 0 0 Q (F0 m pc ls [.int res]))  :
    ∀ (x2 : Int32) (x3 : Int32) (H : Heap) (locs : List Loc) (ls : Array Slot), va_P D vwCl (w_X10_reach K g_t g_t_radar g_t_draft g_t_text g_t_reader g_t_history g_t_echoes g_t_tracks g_t_dwelling g_t_chooser g_t_adviser t_radar_gapCount t_radar_targetCount t_radar_lookCount t_radar_time t_radar_gone t_radar_gaps) H → va_D A (w_X10_reach K g_t g_t_radar g_t_draft g_t_text g_t_reader g_t_history g_t_echoes g_t_tracks g_t_dwelling g_t_chooser g_t_adviser t_radar_gapCount t_radar_targetCount t_radar_lookCount t_radar_time t_radar_gone t_radar_gaps) → va_S A s.heap H locs → lv_has ls 6 [(2, .int x2), (3, .int x3)] → J_X10_reach_70 t_radar_gapCount t_radar_gaps x2 x3 = some res → W p l e rmX10_reach s m args below meth c H locs 0 0 Q (F0 m 70 ls []) := by
  obtain ⟨⟨hx, hb, hml, hown, hts⟩, hK, -⟩ := id C0
  intro x2 x3 H locs ls hP hD hS hl hF
  unfold J_X10_reach_70 at hF
  refine lv_iload_n hx hb dX10_reach_70 rfl (lv_at hl 1 rfl) ?_
  refine lv_i2l hx hb dX10_reach_71 rfl ?_
  refine lv_iload_n hx hb dX10_reach_72 rfl (lv_at hl 0 rfl) ?_
  refine lv_i2l hx hb dX10_reach_73 rfl ?_
  refine lv_lmul hx hb dX10_reach_74 ?_
  refine lv_lstore (lv' := [(4, .long ((x3).toInt64 * (x2).toInt64)), (2, .int x2), (3, .int x3)]) hx hb dX10_reach_75 hl (by decide) rfl (fun ls hl => ?_)
  refine lv_lload hx hb dX10_reach_77 (lv_at hl 0 rfl) ?_
  refine lv_lload hx hb dX10_reach_79 (lv_at hl 0 rfl) ?_
  refine lv_l2i hx hb dX10_reach_81 rfl ?_
  refine lv_i2l hx hb dX10_reach_82 rfl ?_
  refine W.lcmp hx hb dX10_reach_83 ?_
  refine lv_if_ne (tgt := 93) hx hb dX10_reach_84 (by decide) (fun c_1 => ?_) (fun c_1 => ?_)
  · have hF := it_neg c_1 hF
    refine lv_ldcw (v := -2147483648) hx hb hown (hts _ ld_X10_reach_283) dX10_reach_93 ?_
    obtain rfl := Option.some.inj hF
    exact HR 96 H locs ls dX10_reach_96 hP hD hS
  · have hF := it_pos c_1 hF
    refine lv_lload hx hb dX10_reach_87 (lv_at hl 0 rfl) ?_
    refine lv_l2i hx hb dX10_reach_89 rfl ?_
    refine lv_goto (tgt := 96) hx hb dX10_reach_90 (by decide) ?_
    obtain rfl := Option.some.inj hF
    exact HR 96 H locs ls dX10_reach_96 hP hD hS
def L_X10_reach_28 (t_radar_gapCount : Int32) (t_radar_gaps : Nat → Int32) : Nat → Int32 → Int32 → Int32 → Int32 → Option (Int32)
  | 0, _, _, _, _ => none
  | n_ + 1, x1, x2, x3, x4 =>
    if t_radar_gapCount ≤ x4 then (J_X10_reach_70 t_radar_gapCount t_radar_gaps x2 x3) else (if ((x1 >>> (x4 &&& 31)) &&& (1 : Int32)) = (0 : Int32) then (L_X10_reach_28 t_radar_gapCount t_radar_gaps n_ x1 x2 x3 (x4 + (1 : Int32))) else (gd_ (in_b x4 5) ((F_X10_leastCommon x3 (t_radar_gaps (x4).toNatClampNeg)).bind fun r_4 => (L_X10_reach_28 t_radar_gapCount t_radar_gaps n_ x1 x2 r_4 (x4 + (1 : Int32))))))
set_option maxHeartbeats 4000000 in
set_option maxRecDepth 100000 in
theorem w_X10_reach_28 {p : Program} {l : Launch} {e : Env} {s : State} {m : MethodId} {args : Array Value} {below : List Frame} {meth : Method} {c : Code} {D : va_G} {K : Nat → ClassId} {A : Nat → Prop} {Q : State → Prop} (C0 : cx_ p s m args c cX10_reach 6 RX10 wsX10_reach D K A) {g_t : Nat → Nat} {g_t_radar : Nat → Nat} {g_t_draft : Nat → Nat} {g_t_text : Nat → Nat} {g_t_reader : Nat → Nat} {g_t_history : Nat → Nat} {g_t_echoes : Nat → Nat} {g_t_tracks : Nat → Nat} {g_t_dwelling : Nat → Nat} {g_t_chooser : Nat → Nat} {g_t_adviser : Nat → Nat} {t_radar_gapCount : Int32} {t_radar_targetCount : Int32} {t_radar_lookCount : Int32} {t_radar_time : Int32} {t_radar_gone : Int32} {t_radar_gaps : Nat → Int32} {res : Int32} (HR : ∀ (pc : Nat) (H : Heap) (locs : List Loc) (ls : Array Slot), decode cX10_reach pc = .ok (.ireturn, 1) → va_P D vwCl (w_X10_reach K g_t g_t_radar g_t_draft g_t_text g_t_reader g_t_history g_t_echoes g_t_tracks g_t_dwelling g_t_chooser g_t_adviser t_radar_gapCount t_radar_targetCount t_radar_lookCount t_radar_time t_radar_gone t_radar_gaps) H → va_D A (w_X10_reach K g_t g_t_radar g_t_draft g_t_text g_t_reader g_t_history g_t_echoes g_t_tracks g_t_dwelling g_t_chooser g_t_adviser t_radar_gapCount t_radar_targetCount t_radar_lookCount t_radar_time t_radar_gone t_radar_gaps) → va_S A s.heap H locs → W p l e rmX10_reach s m args below meth c H locs 0 0 Q (F0 m pc ls [.int res]))  :
    ∀ (n_ : Nat) (x1 : Int32) (x2 : Int32) (x3 : Int32) (x4 : Int32) (H : Heap) (locs : List Loc) (ls : Array Slot), va_P D vwCl (w_X10_reach K g_t g_t_radar g_t_draft g_t_text g_t_reader g_t_history g_t_echoes g_t_tracks g_t_dwelling g_t_chooser g_t_adviser t_radar_gapCount t_radar_targetCount t_radar_lookCount t_radar_time t_radar_gone t_radar_gaps) H → va_D A (w_X10_reach K g_t g_t_radar g_t_draft g_t_text g_t_reader g_t_history g_t_echoes g_t_tracks g_t_dwelling g_t_chooser g_t_adviser t_radar_gapCount t_radar_targetCount t_radar_lookCount t_radar_time t_radar_gone t_radar_gaps) → va_S A s.heap H locs → lv_has ls 6 [(0, .ref (g_t 0)), (1, .int x1), (2, .int x2), (3, .int x3), (4, .int x4)] → L_X10_reach_28 t_radar_gapCount t_radar_gaps n_ x1 x2 x3 x4 = some res → W p l e rmX10_reach s m args below meth c H locs 0 0 Q (F0 m 28 ls []) := by
  obtain ⟨⟨hx, hb, hml, hown, hts⟩, hK, -⟩ := id C0
  intro n_
  induction n_ with
  | zero =>
    intro x1 x2 x3 x4 H locs ls hP hD hS hl hF
    exact no_s (show (none : Option (Int32)) = some res from hF)
  | succ n_ ih =>
    intro x1 x2 x3 x4 H locs ls hP hD hS hl hF
    rw [L_X10_reach_28] at hF
    refine lv_iload hx hb dX10_reach_28 (lv_at hl 4 rfl) ?_
    refine lv_aload_n hx hb dX10_reach_30 rfl (lv_at hl 0 rfl) ?_
    refine va_get (D := D) (ci := 9) (v := .ref (g_t_radar 0)) (C := RX10) (T := TX10) (N := 14) hx hb hts iw_X10_reach_X10 hown hK hP 0 rfl rfl 0 (by decide) (hts _ fl_X10_reach_10) (fun _ h9 => h9) rfl dX10_reach_31 ?_
    refine va_get (D := D) (ci := 5) (v := .int t_radar_gapCount) (C := RX5) (T := TX5) (N := 13) hx hb hts iw_X10_reach_X5 hown hK hP 1 rfl rfl 8 (by decide) (hts _ fl_X10_reach_122) (fun _ h9 => h9) rfl dX10_reach_34 ?_
    refine lv_icmp_ge (tgt := 70) hx hb dX10_reach_37 (by decide) (fun c_1 => ?_) (fun c_1 => ?_)
    · have hF := it_pos c_1 hF
      exact w_X10_reach_70 C0 HR x2 x3 H locs ls hP hD hS (lv_sub hl [2, 3] rfl) hF
    · have hF := it_neg c_1 hF
      refine lv_iload_n hx hb dX10_reach_40 rfl (lv_at hl 1 rfl) ?_
      refine lv_iload hx hb dX10_reach_41 (lv_at hl 4 rfl) ?_
      refine lv_ishr hx hb dX10_reach_43 ?_
      refine lv_iconst (v := 1) hx hb dX10_reach_44 (by decide) ?_
      refine lv_iand hx hb dX10_reach_45 ?_
      refine lv_if_eq (tgt := 64) hx hb dX10_reach_46 (by decide) (fun c_2 => ?_) (fun c_2 => ?_)
      · have hF := it_pos c_2 hF
        refine lv_iinc (v := (x4 + (1 : Int32))) (lv' := [(4, .int (x4 + (1 : Int32))), (0, .ref (g_t 0)), (1, .int x1), (2, .int x2), (3, .int x3)]) hx hb dX10_reach_64 hl (k := 4) rfl (congrArg (fun z => x4 + z) (by decide)) (by decide) rfl (fun ls hl => ?_)
        refine lv_goto (tgt := 28) hx hb dX10_reach_67 (by decide) ?_
        exact ih x1 x2 x3 (x4 + (1 : Int32)) H locs ls hP hD hS (lv_sub hl [1, 2, 3, 4, 0] rfl) hF
      · have hF := it_neg c_2 hF
        refine lv_iload_n hx hb dX10_reach_49 rfl (lv_at hl 3 rfl) ?_
        refine lv_aload_n hx hb dX10_reach_50 rfl (lv_at hl 0 rfl) ?_
        refine va_get (D := D) (ci := 9) (v := .ref (g_t_radar 0)) (C := RX10) (T := TX10) (N := 14) hx hb hts iw_X10_reach_X10 hown hK hP 0 rfl rfl 0 (by decide) (hts _ fl_X10_reach_10) (fun _ h9 => h9) rfl dX10_reach_51 ?_
        refine va_get (D := D) (ci := 5) (v := .ref (g_t_radar 1)) (C := RX5) (T := TX5) (N := 13) hx hb hts iw_X10_reach_X5 hown hK hP 1 rfl rfl 0 (by decide) (hts _ fl_X10_reach_238) (fun _ h9 => h9) rfl dX10_reach_54 ?_
        refine lv_iload hx hb dX10_reach_57 (lv_at hl 4 rfl) ?_
        obtain ⟨hg_3, hF⟩ := gd_some hF
        refine xl_i (f := t_radar_gaps) hx hb hK hP 2 0 rfl rfl rfl (in_v hg_3) dX10_reach_59 ?_
        obtain ⟨r_4, hc_5, hF⟩ := bn_some hF
        refine xc_i (wn := (w_X10_reach K g_t g_t_radar g_t_draft g_t_text g_t_reader g_t_history g_t_echoes g_t_tracks g_t_dwelling g_t_chooser g_t_adviser t_radar_gapCount t_radar_targetCount t_radar_lookCount t_radar_time t_radar_gone t_radar_gaps)) hP hD hS C0.2.2.1 [] [0, 1, 2] [0, 1, 2] rfl rfl (by decide) (by decide) rfl (by decide) (va_runS (As := [.int x3, .int (t_radar_gaps (x4).toNatClampNeg)]) (rest := []) C0.1 (c_X10_leastCommon l D K x3 (t_radar_gaps (x4).toNatClampNeg) r_4 hc_5 H.size) (va_cwS 2 hts gX10_reach_X10_leastCommon rfl rfl rfl (by decide +kernel) ⟨Nat.le_of_ble_eq_true rfl, Nat.le_of_ble_eq_true rfl⟩) (xp_S C0.2 hP hD hS [] rfl (by decide)) rfl rfl hl.1 rfl (lv_room (Nat.le_of_ble_eq_true rfl)) dX10_reach_60 ⟨Nat.le_of_ble_eq_true rfl, Nat.le_of_ble_eq_true rfl⟩) (fun H locs hP hD hS => ?_)
        refine lv_istore_n (lv' := [(3, .int r_4), (0, .ref (g_t 0)), (1, .int x1), (2, .int x2), (4, .int x4)]) hx hb dX10_reach_63 rfl hl (by decide) rfl (fun ls hl => ?_)
        refine lv_iinc (v := (x4 + (1 : Int32))) (lv' := [(4, .int (x4 + (1 : Int32))), (3, .int r_4), (0, .ref (g_t 0)), (1, .int x1), (2, .int x2)]) hx hb dX10_reach_64 hl (k := 4) rfl (congrArg (fun z => x4 + z) (by decide)) (by decide) rfl (fun ls hl => ?_)
        refine lv_goto (tgt := 28) hx hb dX10_reach_67 (by decide) ?_
        exact ih x1 x2 r_4 (x4 + (1 : Int32)) H locs ls hP hD hS (lv_sub hl [2, 3, 4, 1, 0] rfl) hF
def F_X10_reach (t_radar_gapCount : Int32) (t_radar_gaps : Nat → Int32) (x1 : Int32) (x2 : Int32) : Option (Int32) :=
  (F_X10_isWithin x1 (0 : Int32) (((1 : Int32) <<< (t_radar_gapCount &&& 31)) - (1 : Int32))).bind fun r_1 => (if r_1 = (0 : Int32) then (some (-2147483648 : Int32)) else (L_X10_reach_28 t_radar_gapCount t_radar_gaps fu_ x1 x2 (1 : Int32) (0 : Int32)))
set_option maxHeartbeats 4000000 in
set_option maxRecDepth 100000 in
theorem c_X10_reach (l : Launch) (D : va_G) (K : Nat → ClassId) (g_t : Nat → Nat) (g_t_radar : Nat → Nat) (g_t_draft : Nat → Nat) (g_t_text : Nat → Nat) (g_t_reader : Nat → Nat) (g_t_history : Nat → Nat) (g_t_echoes : Nat → Nat) (g_t_tracks : Nat → Nat) (g_t_dwelling : Nat → Nat) (g_t_chooser : Nat → Nat) (g_t_adviser : Nat → Nat) (t_radar_gapCount : Int32) (t_radar_targetCount : Int32) (t_radar_lookCount : Int32) (t_radar_time : Int32) (t_radar_gone : Int32) (t_radar_gaps : Nat → Int32) (x1 : Int32) (x2 : Int32) (res : Int32) (hF : F_X10_reach t_radar_gapCount t_radar_gaps x1 x2 = some res) :
    Mi_ l yX10_reach wsX10_reach rmX10_reach D K [.ref (g_t 0), .int x1, .int x2] (w_X10_reach K g_t g_t_radar g_t_draft g_t_text g_t_reader g_t_history g_t_echoes g_t_tracks g_t_dwelling g_t_chooser g_t_adviser t_radar_gapCount t_radar_targetCount t_radar_lookCount t_radar_time t_radar_gone t_radar_gaps) (w_X10_reach K g_t g_t_radar g_t_draft g_t_text g_t_reader g_t_history g_t_echoes g_t_tracks g_t_dwelling g_t_chooser g_t_adviser t_radar_gapCount t_radar_targetCount t_radar_lookCount t_radar_time t_radar_gone t_radar_gaps) (res) := by
  refine en_i (cc := cX10_reach) (maxL := 6) (own := RX10) (by decide) rfl rfl (Nat.le_of_ble_eq_true rfl) ?_
  intro p e s m args below meth c A Q H locs ls C0 hP hD hS hl HR
  obtain ⟨⟨hx, hb, hml, hown, hts⟩, hK, -⟩ := id C0
  have hl : lv_has ls 6 [(0, .ref (g_t 0)), (1, .int x1), (2, .int x2)] := hl
  unfold F_X10_reach at hF
  refine lv_iload_n hx hb dX10_reach_0 rfl (lv_at hl 1 rfl) ?_
  refine lv_iconst (v := 0) hx hb dX10_reach_1 (by decide) ?_
  refine lv_iconst (v := 1) hx hb dX10_reach_2 (by decide) ?_
  refine lv_aload_n hx hb dX10_reach_3 rfl (lv_at hl 0 rfl) ?_
  refine va_get (D := D) (ci := 9) (v := .ref (g_t_radar 0)) (C := RX10) (T := TX10) (N := 14) hx hb hts iw_X10_reach_X10 hown hK hP 0 rfl rfl 0 (by decide) (hts _ fl_X10_reach_10) (fun _ h9 => h9) rfl dX10_reach_4 ?_
  refine va_get (D := D) (ci := 5) (v := .int t_radar_gapCount) (C := RX5) (T := TX5) (N := 13) hx hb hts iw_X10_reach_X5 hown hK hP 1 rfl rfl 8 (by decide) (hts _ fl_X10_reach_122) (fun _ h9 => h9) rfl dX10_reach_7 ?_
  refine lv_ishl hx hb dX10_reach_10 ?_
  refine lv_iconst (v := 1) hx hb dX10_reach_11 (by decide) ?_
  refine lv_isub hx hb dX10_reach_12 ?_
  obtain ⟨r_1, hc_2, hF⟩ := bn_some hF
  refine xc_i (wn := (w_X10_reach K g_t g_t_radar g_t_draft g_t_text g_t_reader g_t_history g_t_echoes g_t_tracks g_t_dwelling g_t_chooser g_t_adviser t_radar_gapCount t_radar_targetCount t_radar_lookCount t_radar_time t_radar_gone t_radar_gaps)) hP hD hS C0.2.2.1 [] [0, 1, 2] [0, 1, 2] rfl rfl (by decide) (by decide) rfl (by decide) (va_runS (As := [.int x1, .int (0 : Int32), .int (((1 : Int32) <<< (t_radar_gapCount &&& 31)) - (1 : Int32))]) (rest := []) C0.1 (c_X10_isWithin l D K x1 (0 : Int32) (((1 : Int32) <<< (t_radar_gapCount &&& 31)) - (1 : Int32)) r_1 hc_2 H.size) (va_cwS 3 hts gX10_reach_X10_isWithin rfl rfl rfl (by decide +kernel) ⟨Nat.le_of_ble_eq_true rfl, Nat.le_of_ble_eq_true rfl⟩) (xp_S C0.2 hP hD hS [] rfl (by decide)) rfl rfl hl.1 rfl (lv_room (Nat.le_of_ble_eq_true rfl)) dX10_reach_13 ⟨Nat.le_of_ble_eq_true rfl, Nat.le_of_ble_eq_true rfl⟩) (fun H locs hP hD hS => ?_)
  refine lv_if_ne (tgt := 23) hx hb dX10_reach_16 (by decide) (fun c_3 => ?_) (fun c_3 => ?_)
  · have hF := it_neg c_3 hF
    refine lv_iconst (v := 1) hx hb dX10_reach_23 (by decide) ?_
    refine lv_istore_n (lv' := [(3, .int (1 : Int32)), (0, .ref (g_t 0)), (1, .int x1), (2, .int x2)]) hx hb dX10_reach_24 rfl hl (by decide) rfl (fun ls hl => ?_)
    refine lv_iconst (v := 0) hx hb dX10_reach_25 (by decide) ?_
    refine lv_istore (lv' := [(4, .int (0 : Int32)), (3, .int (1 : Int32)), (0, .ref (g_t 0)), (1, .int x1), (2, .int x2)]) hx hb dX10_reach_26 hl (by decide) rfl (fun ls hl => ?_)
    exact w_X10_reach_28 C0 HR fu_ x1 x2 (1 : Int32) (0 : Int32) H locs ls hP hD hS (lv_sub hl [2, 3, 4, 1, 0] rfl) hF
  · have hF := it_pos c_3 hF
    refine lv_ldcw (v := -2147483648) hx hb hown (hts _ ld_X10_reach_283) dX10_reach_19 ?_
    obtain rfl := Option.some.inj hF
    exact HR 22 H locs ls dX10_reach_22 hP hD hS

/-! StaggerRadar.Radar.begin()V -/
abbrev rmX5_begin : Room := { frames := 1, cells := 0, slots := 0, locals := 60 }
theorem fl_X5_begin_15 : Cond.fieldLink RX5 15 "StaggerRadar$Radar" "settings" "[I" ∈ wsX5_begin := by decide +kernel
theorem fl_X5_begin_45 : Cond.fieldLink RX5 45 "StaggerRadar$Radar" "gapCount" "I" ∈ wsX5_begin := by decide +kernel
theorem fl_X5_begin_49 : Cond.fieldLink RX5 49 "StaggerRadar$Radar" "targetCount" "I" ∈ wsX5_begin := by decide +kernel
theorem fl_X5_begin_52 : Cond.fieldLink RX5 52 "StaggerRadar$Radar" "lookCount" "I" ∈ wsX5_begin := by decide +kernel
theorem fl_X5_begin_55 : Cond.fieldLink RX5 55 "StaggerRadar$Radar" "time" "I" ∈ wsX5_begin := by decide +kernel
theorem fl_X5_begin_58 : Cond.fieldLink RX5 58 "StaggerRadar$Radar" "gone" "I" ∈ wsX5_begin := by decide +kernel
theorem iw_X5_begin_X5 : ∀ w ∈ u_ws RX5 TX5 13, w ∈ wsX5_begin := by decide +kernel
abbrev w_X5_begin (K : Nat → ClassId) (g_t : Nat → Nat) (t_gapCount : Int32) (t_targetCount : Int32) (t_lookCount : Int32) (t_time : Int32) (t_gone : Int32) (t_settings : Nat → Int32) : va_W := [((g_t 0), .inr (5, [.ref (g_t 1), .ref (g_t 2), .ref (g_t 3), .ref (g_t 4), .ref (g_t 5), .ref (g_t 6), .ref (g_t 7), .ref (g_t 8), .int t_gapCount, .int t_targetCount, .int t_lookCount, .int t_time, .int t_gone])), ((g_t 2), .inl (K 0, 7, .inl t_settings))]
def F_X5_begin (t_gapCount : Int32) (t_targetCount : Int32) (t_lookCount : Int32) (t_time : Int32) (t_gone : Int32) (t_settings : Nat → Int32) : Option (Int32 × Int32 × Int32 × Int32 × Int32 × (Nat → Int32)) :=
  some ((0 : Int32), (0 : Int32), (0 : Int32), (0 : Int32), (0 : Int32), (va_cpy (fun j => tb_A.getD j 0) t_settings 0 0 7))
set_option maxHeartbeats 4000000 in
set_option maxRecDepth 100000 in
theorem c_X5_begin (l : Launch) (D : va_G) (K : Nat → ClassId) (g_t : Nat → Nat) (t_gapCount : Int32) (t_targetCount : Int32) (t_lookCount : Int32) (t_time : Int32) (t_gone : Int32) (t_settings : Nat → Int32) (res : Int32 × Int32 × Int32 × Int32 × Int32 × (Nat → Int32)) (hF : F_X5_begin t_gapCount t_targetCount t_lookCount t_time t_gone t_settings = some res) :
    Mv_ l yX5_begin wsX5_begin rmX5_begin D K [.ref (g_t 0)] (w_X5_begin K g_t t_gapCount t_targetCount t_lookCount t_time t_gone t_settings) (w_X5_begin K g_t res.1 res.2.1 res.2.2.1 res.2.2.2.1 res.2.2.2.2.1 res.2.2.2.2.2) := by
  refine en_v (cc := cX5_begin) (maxL := 1) (own := RX5) (by decide) rfl rfl (Nat.le_of_ble_eq_true rfl) ?_
  intro p e s m args below meth c A Q H locs ls C0 hP hD hS hl HR
  obtain ⟨⟨hx, hb, hml, hown, hts⟩, hK, -⟩ := id C0
  obtain ⟨-, ⟨aA, zA, tA⟩, ⟨aL, zL, tL⟩, ⟨aM, zM, tM⟩, -⟩ := id C0.2.2.2
  have hl : lv_has ls 1 [(0, .ref (g_t 0))] := hl
  unfold F_X5_begin at hF
  refine va_getsN hx hb zA hS hown (va_Nw.use rfl C0.2.2.2.1.2.1) (fun _ h9 => h9) dX5_begin_0 ?_
  refine lv_iconst (v := 0) hx hb dX5_begin_3 (by decide) ?_
  refine lv_aload_n hx hb dX5_begin_4 rfl (lv_at hl 0 rfl) ?_
  refine va_get (D := D) (ci := 5) (v := .ref (g_t 2)) (C := RX5) (T := TX5) (N := 13) hx hb hts iw_X5_begin_X5 hown hK hP 0 rfl rfl 1 (by decide) (hts _ fl_X5_begin_15) (fun _ h9 => h9) rfl dX5_begin_5 ?_
  refine lv_iconst (v := 0) hx hb dX5_begin_8 (by decide) ?_
  refine lv_bipush (v := 7) hx hb dX5_begin_9 (by decide) ?_
  refine xy_t (g := t_settings) hx hb (hml.trans hl.1.symm) hown (hts (.methodLink RX5 39 arraycopyName) (by decide +kernel)) (hts (.native arraycopyName) (by decide +kernel)) (hts (.static arraycopyName) (by decide +kernel)) (hts (.initialized "java/lang/System") (by decide +kernel)) hK hP hD hS tA 1 0 rfl rfl (by decide) (by decide) (by decide) (k1 := 0) (k2 := 0) (k3 := 7) (by decide) (by decide) (by decide) (Nat.le_of_ble_eq_true rfl) (Nat.le_of_ble_eq_true rfl) (Nat.le_of_ble_eq_true rfl) (Nat.le_of_ble_eq_true rfl) dX5_begin_11 (fun H locs hP hD hS => ?_)
  have hP : va_P D vwCl (w_X5_begin K g_t t_gapCount t_targetCount t_lookCount t_time t_gone (va_cpy (fun j => tb_A.getD j 0) t_settings 0 0 7)) H := hP
  have hD : va_D A (w_X5_begin K g_t t_gapCount t_targetCount t_lookCount t_time t_gone (va_cpy (fun j => tb_A.getD j 0) t_settings 0 0 7)) := hD
  refine lv_aload_n hx hb dX5_begin_14 rfl (lv_at hl 0 rfl) ?_
  refine lv_iconst (v := 0) hx hb dX5_begin_15 (by decide) ?_
  refine va_put (D := D) (ci := 5) (v := .int (0 : Int32)) (ty := .int) (C := RX5) (T := TX5) (N := 13) hx hb hts iw_X5_begin_X5 tyX5 tyX5_ok nmX5 hown hK hP hD hS 0 rfl rfl 8 (by decide) (hts _ fl_X5_begin_45) (fun _ h9 => h9) rfl (by decide +kernel) rfl rfl (Nat.le_of_ble_eq_true rfl) dX5_begin_16 (fun H locs hP hD hS => ?_)
  have hP : va_P D vwCl (w_X5_begin K g_t (0 : Int32) t_targetCount t_lookCount t_time t_gone (va_cpy (fun j => tb_A.getD j 0) t_settings 0 0 7)) H := hP
  have hD : va_D A (w_X5_begin K g_t (0 : Int32) t_targetCount t_lookCount t_time t_gone (va_cpy (fun j => tb_A.getD j 0) t_settings 0 0 7)) := hD
  refine lv_aload_n hx hb dX5_begin_19 rfl (lv_at hl 0 rfl) ?_
  refine lv_iconst (v := 0) hx hb dX5_begin_20 (by decide) ?_
  refine va_put (D := D) (ci := 5) (v := .int (0 : Int32)) (ty := .int) (C := RX5) (T := TX5) (N := 13) hx hb hts iw_X5_begin_X5 tyX5 tyX5_ok nmX5 hown hK hP hD hS 0 rfl rfl 9 (by decide) (hts _ fl_X5_begin_49) (fun _ h9 => h9) rfl (by decide +kernel) rfl rfl (Nat.le_of_ble_eq_true rfl) dX5_begin_21 (fun H locs hP hD hS => ?_)
  have hP : va_P D vwCl (w_X5_begin K g_t (0 : Int32) (0 : Int32) t_lookCount t_time t_gone (va_cpy (fun j => tb_A.getD j 0) t_settings 0 0 7)) H := hP
  have hD : va_D A (w_X5_begin K g_t (0 : Int32) (0 : Int32) t_lookCount t_time t_gone (va_cpy (fun j => tb_A.getD j 0) t_settings 0 0 7)) := hD
  refine lv_aload_n hx hb dX5_begin_24 rfl (lv_at hl 0 rfl) ?_
  refine lv_iconst (v := 0) hx hb dX5_begin_25 (by decide) ?_
  refine va_put (D := D) (ci := 5) (v := .int (0 : Int32)) (ty := .int) (C := RX5) (T := TX5) (N := 13) hx hb hts iw_X5_begin_X5 tyX5 tyX5_ok nmX5 hown hK hP hD hS 0 rfl rfl 10 (by decide) (hts _ fl_X5_begin_52) (fun _ h9 => h9) rfl (by decide +kernel) rfl rfl (Nat.le_of_ble_eq_true rfl) dX5_begin_26 (fun H locs hP hD hS => ?_)
  have hP : va_P D vwCl (w_X5_begin K g_t (0 : Int32) (0 : Int32) (0 : Int32) t_time t_gone (va_cpy (fun j => tb_A.getD j 0) t_settings 0 0 7)) H := hP
  have hD : va_D A (w_X5_begin K g_t (0 : Int32) (0 : Int32) (0 : Int32) t_time t_gone (va_cpy (fun j => tb_A.getD j 0) t_settings 0 0 7)) := hD
  refine lv_aload_n hx hb dX5_begin_29 rfl (lv_at hl 0 rfl) ?_
  refine lv_iconst (v := 0) hx hb dX5_begin_30 (by decide) ?_
  refine va_put (D := D) (ci := 5) (v := .int (0 : Int32)) (ty := .int) (C := RX5) (T := TX5) (N := 13) hx hb hts iw_X5_begin_X5 tyX5 tyX5_ok nmX5 hown hK hP hD hS 0 rfl rfl 11 (by decide) (hts _ fl_X5_begin_55) (fun _ h9 => h9) rfl (by decide +kernel) rfl rfl (Nat.le_of_ble_eq_true rfl) dX5_begin_31 (fun H locs hP hD hS => ?_)
  have hP : va_P D vwCl (w_X5_begin K g_t (0 : Int32) (0 : Int32) (0 : Int32) (0 : Int32) t_gone (va_cpy (fun j => tb_A.getD j 0) t_settings 0 0 7)) H := hP
  have hD : va_D A (w_X5_begin K g_t (0 : Int32) (0 : Int32) (0 : Int32) (0 : Int32) t_gone (va_cpy (fun j => tb_A.getD j 0) t_settings 0 0 7)) := hD
  refine lv_aload_n hx hb dX5_begin_34 rfl (lv_at hl 0 rfl) ?_
  refine lv_iconst (v := 0) hx hb dX5_begin_35 (by decide) ?_
  refine va_put (D := D) (ci := 5) (v := .int (0 : Int32)) (ty := .int) (C := RX5) (T := TX5) (N := 13) hx hb hts iw_X5_begin_X5 tyX5 tyX5_ok nmX5 hown hK hP hD hS 0 rfl rfl 12 (by decide) (hts _ fl_X5_begin_58) (fun _ h9 => h9) rfl (by decide +kernel) rfl rfl (Nat.le_of_ble_eq_true rfl) dX5_begin_36 (fun H locs hP hD hS => ?_)
  have hP : va_P D vwCl (w_X5_begin K g_t (0 : Int32) (0 : Int32) (0 : Int32) (0 : Int32) (0 : Int32) (va_cpy (fun j => tb_A.getD j 0) t_settings 0 0 7)) H := hP
  have hD : va_D A (w_X5_begin K g_t (0 : Int32) (0 : Int32) (0 : Int32) (0 : Int32) (0 : Int32) (va_cpy (fun j => tb_A.getD j 0) t_settings 0 0 7)) := hD
  obtain rfl := Option.some.inj hF
  exact HR 39 H locs ls dX5_begin_39 hP hD hS
